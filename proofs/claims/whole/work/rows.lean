section
-- ===== PART A: goes FIRST, ahead of the names: the tables' words, and 'selects' of the private methods out of them =====
/-- a private method of a class that the tables say can be made, by its rows of tables_1 -/
def lw_okq (q : MethodName × Nat) : Prop := (q.1.cls ≠ "java/lang/invoke/MethodHandle" ∧ q.1.cls ≠ "java/lang/invoke/VarHandle") ∧ Cond.instantiable q.1.cls q.2 ∈ tables_1 ∧ Cond.privateMethod q.1 ∈ tables_1 ∧ Cond.instanceMethod q.1 ∈ tables_1
theorem lw_p0 : lw_okq (⟨"ClocksTold$Shop", "enter", "(III)I"⟩, 11) := ⟨⟨by decide +kernel, by decide +kernel⟩, List.mem_of_getElem? (i := 29) (by decide +kernel), List.mem_of_getElem? (i := 318) (by decide +kernel), List.mem_of_getElem? (i := 319) (by decide +kernel)⟩
theorem lw_p1 : lw_okq (⟨"ClocksTold$Shop", "learn", "(I)V"⟩, 11) := ⟨⟨by decide +kernel, by decide +kernel⟩, List.mem_of_getElem? (i := 29) (by decide +kernel), List.mem_of_getElem? (i := 322) (by decide +kernel), List.mem_of_getElem? (i := 323) (by decide +kernel)⟩
theorem lw_p2 : lw_okq (⟨"ClocksTold$Bench", "newsBy", "([I)I"⟩, 6) := ⟨⟨by decide +kernel, by decide +kernel⟩, List.mem_of_getElem? (i := 235) (by decide +kernel), List.mem_of_getElem? (i := 326) (by decide +kernel), List.mem_of_getElem? (i := 327) (by decide +kernel)⟩
theorem lw_p3 : lw_okq (⟨"ClocksTold$Bench", "isTrue", "(II[I)Z"⟩, 6) := ⟨⟨by decide +kernel, by decide +kernel⟩, List.mem_of_getElem? (i := 235) (by decide +kernel), List.mem_of_getElem? (i := 330) (by decide +kernel), List.mem_of_getElem? (i := 331) (by decide +kernel)⟩
theorem lw_p4 : lw_okq (⟨"ClocksTold", "isClock", "(I)Z"⟩, 10) := ⟨⟨by decide +kernel, by decide +kernel⟩, List.mem_of_getElem? (i := 21) (by decide +kernel), List.mem_of_getElem? (i := 344) (by decide +kernel), List.mem_of_getElem? (i := 345) (by decide +kernel)⟩
theorem lw_p5 : lw_okq (⟨"ClocksTold$Shop", "leftOf", "(LClocksTold$Course;I)I"⟩, 11) := ⟨⟨by decide +kernel, by decide +kernel⟩, List.mem_of_getElem? (i := 29) (by decide +kernel), List.mem_of_getElem? (i := 348) (by decide +kernel), List.mem_of_getElem? (i := 349) (by decide +kernel)⟩
theorem lw_p6 : lw_okq (⟨"ClocksTold$Shop", "newsAhead", "(II)I"⟩, 11) := ⟨⟨by decide +kernel, by decide +kernel⟩, List.mem_of_getElem? (i := 29) (by decide +kernel), List.mem_of_getElem? (i := 352) (by decide +kernel), List.mem_of_getElem? (i := 353) (by decide +kernel)⟩
theorem lw_p7 : lw_okq (⟨"ClocksTold$Shop", "holds", "(II)I"⟩, 11) := ⟨⟨by decide +kernel, by decide +kernel⟩, List.mem_of_getElem? (i := 29) (by decide +kernel), List.mem_of_getElem? (i := 356) (by decide +kernel), List.mem_of_getElem? (i := 357) (by decide +kernel)⟩
theorem lw_p8 : lw_okq (⟨"ClocksTold$Shop", "pace", "()I"⟩, 11) := ⟨⟨by decide +kernel, by decide +kernel⟩, List.mem_of_getElem? (i := 29) (by decide +kernel), List.mem_of_getElem? (i := 360) (by decide +kernel), List.mem_of_getElem? (i := 361) (by decide +kernel)⟩
theorem lw_p9 : lw_okq (⟨"ClocksTold$Asker", "minded", "(I)I"⟩, 4) := ⟨⟨by decide +kernel, by decide +kernel⟩, List.mem_of_getElem? (i := 160) (by decide +kernel), List.mem_of_getElem? (i := 365) (by decide +kernel), List.mem_of_getElem? (i := 366) (by decide +kernel)⟩
theorem lw_p10 : lw_okq (⟨"ClocksTold$Shop", "minds", "(II)Z"⟩, 11) := ⟨⟨by decide +kernel, by decide +kernel⟩, List.mem_of_getElem? (i := 29) (by decide +kernel), List.mem_of_getElem? (i := 369) (by decide +kernel), List.mem_of_getElem? (i := 370) (by decide +kernel)⟩
theorem lw_p11 : lw_okq (⟨"ClocksTold$Shop", "newsOf", "(II)I"⟩, 11) := ⟨⟨by decide +kernel, by decide +kernel⟩, List.mem_of_getElem? (i := 29) (by decide +kernel), List.mem_of_getElem? (i := 373) (by decide +kernel), List.mem_of_getElem? (i := 374) (by decide +kernel)⟩
theorem lw_p12 : lw_okq (⟨"ClocksTold$Asker", "whole", "(I)I"⟩, 4) := ⟨⟨by decide +kernel, by decide +kernel⟩, List.mem_of_getElem? (i := 160) (by decide +kernel), List.mem_of_getElem? (i := 377) (by decide +kernel), List.mem_of_getElem? (i := 378) (by decide +kernel)⟩
theorem lw_p13 : lw_okq (⟨"ClocksTold$Asker", "begin", "()V"⟩, 4) := ⟨⟨by decide +kernel, by decide +kernel⟩, List.mem_of_getElem? (i := 160) (by decide +kernel), List.mem_of_getElem? (i := 381) (by decide +kernel), List.mem_of_getElem? (i := 382) (by decide +kernel)⟩
theorem lw_p14 : lw_okq (⟨"ClocksTold$Course", "copyFrom", "(LClocksTold$Course;)V"⟩, 3) := ⟨⟨by decide +kernel, by decide +kernel⟩, List.mem_of_getElem? (i := 35) (by decide +kernel), List.mem_of_getElem? (i := 385) (by decide +kernel), List.mem_of_getElem? (i := 386) (by decide +kernel)⟩
theorem lw_p15 : lw_okq (⟨"ClocksTold$Course", "isUp", "(I)Z"⟩, 3) := ⟨⟨by decide +kernel, by decide +kernel⟩, List.mem_of_getElem? (i := 35) (by decide +kernel), List.mem_of_getElem? (i := 389) (by decide +kernel), List.mem_of_getElem? (i := 390) (by decide +kernel)⟩
def lw_privs_1 : List (MethodName × Nat) := [(⟨"ClocksTold$Shop", "enter", "(III)I"⟩, 11), (⟨"ClocksTold$Shop", "learn", "(I)V"⟩, 11), (⟨"ClocksTold$Bench", "newsBy", "([I)I"⟩, 6), (⟨"ClocksTold$Bench", "isTrue", "(II[I)Z"⟩, 6), (⟨"ClocksTold", "isClock", "(I)Z"⟩, 10), (⟨"ClocksTold$Shop", "leftOf", "(LClocksTold$Course;I)I"⟩, 11), (⟨"ClocksTold$Shop", "newsAhead", "(II)I"⟩, 11), (⟨"ClocksTold$Shop", "holds", "(II)I"⟩, 11), (⟨"ClocksTold$Shop", "pace", "()I"⟩, 11), (⟨"ClocksTold$Asker", "minded", "(I)I"⟩, 4), (⟨"ClocksTold$Shop", "minds", "(II)Z"⟩, 11), (⟨"ClocksTold$Shop", "newsOf", "(II)I"⟩, 11), (⟨"ClocksTold$Asker", "whole", "(I)I"⟩, 4), (⟨"ClocksTold$Asker", "begin", "()V"⟩, 4), (⟨"ClocksTold$Course", "copyFrom", "(LClocksTold$Course;)V"⟩, 3), (⟨"ClocksTold$Course", "isUp", "(I)Z"⟩, 3)]
theorem lw_r1 : ∀ q ∈ lw_privs_1, lw_okq q := List.forall_mem_cons.mpr ⟨lw_p0, List.forall_mem_cons.mpr ⟨lw_p1, List.forall_mem_cons.mpr ⟨lw_p2, List.forall_mem_cons.mpr ⟨lw_p3, List.forall_mem_cons.mpr ⟨lw_p4, List.forall_mem_cons.mpr ⟨lw_p5, List.forall_mem_cons.mpr ⟨lw_p6, List.forall_mem_cons.mpr ⟨lw_p7, List.forall_mem_cons.mpr ⟨lw_p8, List.forall_mem_cons.mpr ⟨lw_p9, List.forall_mem_cons.mpr ⟨lw_p10, List.forall_mem_cons.mpr ⟨lw_p11, List.forall_mem_cons.mpr ⟨lw_p12, List.forall_mem_cons.mpr ⟨lw_p13, List.forall_mem_cons.mpr ⟨lw_p14, List.forall_mem_cons.mpr ⟨lw_p15, fun _ h => absurd h List.not_mem_nil⟩⟩⟩⟩⟩⟩⟩⟩⟩⟩⟩⟩⟩⟩⟩⟩
theorem lw_p16 : lw_okq (⟨"ClocksTold$Shop", "evening", "(LClocksTold$Course;I)I"⟩, 11) := ⟨⟨by decide +kernel, by decide +kernel⟩, List.mem_of_getElem? (i := 29) (by decide +kernel), List.mem_of_getElem? (i := 393) (by decide +kernel), List.mem_of_getElem? (i := 394) (by decide +kernel)⟩
theorem lw_p17 : lw_okq (⟨"ClocksTold$Shop", "night", "(LClocksTold$Course;)V"⟩, 11) := ⟨⟨by decide +kernel, by decide +kernel⟩, List.mem_of_getElem? (i := 29) (by decide +kernel), List.mem_of_getElem? (i := 399) (by decide +kernel), List.mem_of_getElem? (i := 400) (by decide +kernel)⟩
theorem lw_p18 : lw_okq (⟨"ClocksTold$Reader", "take", "(B)Z"⟩, 6) := ⟨⟨by decide +kernel, by decide +kernel⟩, List.mem_of_getElem? (i := 130) (by decide +kernel), List.mem_of_getElem? (i := 425) (by decide +kernel), List.mem_of_getElem? (i := 426) (by decide +kernel)⟩
theorem lw_p19 : lw_okq (⟨"ClocksTold$Reader", "readInto", "(LClocksTold$Bench;)Z"⟩, 6) := ⟨⟨by decide +kernel, by decide +kernel⟩, List.mem_of_getElem? (i := 130) (by decide +kernel), List.mem_of_getElem? (i := 433) (by decide +kernel), List.mem_of_getElem? (i := 434) (by decide +kernel)⟩
theorem lw_p20 : lw_okq (⟨"ClocksTold$Bench", "clear", "()V"⟩, 6) := ⟨⟨by decide +kernel, by decide +kernel⟩, List.mem_of_getElem? (i := 235) (by decide +kernel), List.mem_of_getElem? (i := 437) (by decide +kernel), List.mem_of_getElem? (i := 438) (by decide +kernel)⟩
theorem lw_p21 : lw_okq (⟨"ClocksTold$Reader", "step", "()V"⟩, 6) := ⟨⟨by decide +kernel, by decide +kernel⟩, List.mem_of_getElem? (i := 130) (by decide +kernel), List.mem_of_getElem? (i := 441) (by decide +kernel), List.mem_of_getElem? (i := 442) (by decide +kernel)⟩
theorem lw_p22 : lw_okq (⟨"ClocksTold$Reader", "clause", "()V"⟩, 6) := ⟨⟨by decide +kernel, by decide +kernel⟩, List.mem_of_getElem? (i := 130) (by decide +kernel), List.mem_of_getElem? (i := 445) (by decide +kernel), List.mem_of_getElem? (i := 446) (by decide +kernel)⟩
theorem lw_p23 : lw_okq (⟨"ClocksTold$Reader", "word", "(Ljava/lang/String;)V"⟩, 6) := ⟨⟨by decide +kernel, by decide +kernel⟩, List.mem_of_getElem? (i := 130) (by decide +kernel), List.mem_of_getElem? (i := 450) (by decide +kernel), List.mem_of_getElem? (i := 451) (by decide +kernel)⟩
theorem lw_p24 : lw_okq (⟨"ClocksTold$Reader", "need", "(C)V"⟩, 6) := ⟨⟨by decide +kernel, by decide +kernel⟩, List.mem_of_getElem? (i := 130) (by decide +kernel), List.mem_of_getElem? (i := 502) (by decide +kernel), List.mem_of_getElem? (i := 503) (by decide +kernel)⟩
theorem lw_p25 : lw_okq (⟨"ClocksTold$Reader", "number", "()I"⟩, 6) := ⟨⟨by decide +kernel, by decide +kernel⟩, List.mem_of_getElem? (i := 130) (by decide +kernel), List.mem_of_getElem? (i := 506) (by decide +kernel), List.mem_of_getElem? (i := 507) (by decide +kernel)⟩
theorem lw_p26 : lw_okq (⟨"ClocksTold$Reader", "isDigit", "()Z"⟩, 6) := ⟨⟨by decide +kernel, by decide +kernel⟩, List.mem_of_getElem? (i := 130) (by decide +kernel), List.mem_of_getElem? (i := 510) (by decide +kernel), List.mem_of_getElem? (i := 511) (by decide +kernel)⟩
theorem lw_p27 : lw_okq (⟨"ClocksTold$Reader", "either", "(I)V"⟩, 6) := ⟨⟨by decide +kernel, by decide +kernel⟩, List.mem_of_getElem? (i := 130) (by decide +kernel), List.mem_of_getElem? (i := 517) (by decide +kernel), List.mem_of_getElem? (i := 518) (by decide +kernel)⟩
theorem lw_p28 : lw_okq (⟨"ClocksTold$Reader", "both", "(I)V"⟩, 6) := ⟨⟨by decide +kernel, by decide +kernel⟩, List.mem_of_getElem? (i := 130) (by decide +kernel), List.mem_of_getElem? (i := 521) (by decide +kernel), List.mem_of_getElem? (i := 522) (by decide +kernel)⟩
theorem lw_p29 : lw_okq (⟨"ClocksTold$Reader", "factor", "(I)V"⟩, 6) := ⟨⟨by decide +kernel, by decide +kernel⟩, List.mem_of_getElem? (i := 130) (by decide +kernel), List.mem_of_getElem? (i := 525) (by decide +kernel), List.mem_of_getElem? (i := 526) (by decide +kernel)⟩
theorem lw_p30 : lw_okq (⟨"ClocksTold$Bench", "addStep", "(I)V"⟩, 6) := ⟨⟨by decide +kernel, by decide +kernel⟩, List.mem_of_getElem? (i := 235) (by decide +kernel), List.mem_of_getElem? (i := 529) (by decide +kernel), List.mem_of_getElem? (i := 530) (by decide +kernel)⟩
theorem lw_p31 : lw_okq (⟨"ClocksTold$Reader", "choice", "(Ljava/lang/String;)I"⟩, 6) := ⟨⟨by decide +kernel, by decide +kernel⟩, List.mem_of_getElem? (i := 130) (by decide +kernel), List.mem_of_getElem? (i := 534) (by decide +kernel), List.mem_of_getElem? (i := 535) (by decide +kernel)⟩
def lw_privs_2 : List (MethodName × Nat) := [(⟨"ClocksTold$Shop", "evening", "(LClocksTold$Course;I)I"⟩, 11), (⟨"ClocksTold$Shop", "night", "(LClocksTold$Course;)V"⟩, 11), (⟨"ClocksTold$Reader", "take", "(B)Z"⟩, 6), (⟨"ClocksTold$Reader", "readInto", "(LClocksTold$Bench;)Z"⟩, 6), (⟨"ClocksTold$Bench", "clear", "()V"⟩, 6), (⟨"ClocksTold$Reader", "step", "()V"⟩, 6), (⟨"ClocksTold$Reader", "clause", "()V"⟩, 6), (⟨"ClocksTold$Reader", "word", "(Ljava/lang/String;)V"⟩, 6), (⟨"ClocksTold$Reader", "need", "(C)V"⟩, 6), (⟨"ClocksTold$Reader", "number", "()I"⟩, 6), (⟨"ClocksTold$Reader", "isDigit", "()Z"⟩, 6), (⟨"ClocksTold$Reader", "either", "(I)V"⟩, 6), (⟨"ClocksTold$Reader", "both", "(I)V"⟩, 6), (⟨"ClocksTold$Reader", "factor", "(I)V"⟩, 6), (⟨"ClocksTold$Bench", "addStep", "(I)V"⟩, 6), (⟨"ClocksTold$Reader", "choice", "(Ljava/lang/String;)I"⟩, 6)]
theorem lw_r2 : ∀ q ∈ lw_privs_2, lw_okq q := List.forall_mem_cons.mpr ⟨lw_p16, List.forall_mem_cons.mpr ⟨lw_p17, List.forall_mem_cons.mpr ⟨lw_p18, List.forall_mem_cons.mpr ⟨lw_p19, List.forall_mem_cons.mpr ⟨lw_p20, List.forall_mem_cons.mpr ⟨lw_p21, List.forall_mem_cons.mpr ⟨lw_p22, List.forall_mem_cons.mpr ⟨lw_p23, List.forall_mem_cons.mpr ⟨lw_p24, List.forall_mem_cons.mpr ⟨lw_p25, List.forall_mem_cons.mpr ⟨lw_p26, List.forall_mem_cons.mpr ⟨lw_p27, List.forall_mem_cons.mpr ⟨lw_p28, List.forall_mem_cons.mpr ⟨lw_p29, List.forall_mem_cons.mpr ⟨lw_p30, List.forall_mem_cons.mpr ⟨lw_p31, fun _ h => absurd h List.not_mem_nil⟩⟩⟩⟩⟩⟩⟩⟩⟩⟩⟩⟩⟩⟩⟩⟩
theorem lw_p32 : lw_okq (⟨"ClocksTold$Bench", "addClause", "(I)V"⟩, 6) := ⟨⟨by decide +kernel, by decide +kernel⟩, List.mem_of_getElem? (i := 235) (by decide +kernel), List.mem_of_getElem? (i := 599) (by decide +kernel), List.mem_of_getElem? (i := 600) (by decide +kernel)⟩
theorem lw_p33 : lw_okq (⟨"ClocksTold$Shop", "hold", "(LClocksTold$Bench;)V"⟩, 11) := ⟨⟨by decide +kernel, by decide +kernel⟩, List.mem_of_getElem? (i := 29) (by decide +kernel), List.mem_of_getElem? (i := 603) (by decide +kernel), List.mem_of_getElem? (i := 604) (by decide +kernel)⟩
theorem lw_p34 : lw_okq (⟨"ClocksTold$Shop", "howManyUp", "(LClocksTold$Course;)I"⟩, 11) := ⟨⟨by decide +kernel, by decide +kernel⟩, List.mem_of_getElem? (i := 29) (by decide +kernel), List.mem_of_getElem? (i := 612) (by decide +kernel), List.mem_of_getElem? (i := 613) (by decide +kernel)⟩
theorem lw_p35 : lw_okq (⟨"ClocksTold$Shop", "leftOfAll", "(LClocksTold$Course;)I"⟩, 11) := ⟨⟨by decide +kernel, by decide +kernel⟩, List.mem_of_getElem? (i := 29) (by decide +kernel), List.mem_of_getElem? (i := 616) (by decide +kernel), List.mem_of_getElem? (i := 617) (by decide +kernel)⟩
theorem lw_p36 : lw_okq (⟨"ClocksTold$Asker", "behind", "(III)I"⟩, 4) := ⟨⟨by decide +kernel, by decide +kernel⟩, List.mem_of_getElem? (i := 160) (by decide +kernel), List.mem_of_getElem? (i := 635) (by decide +kernel), List.mem_of_getElem? (i := 636) (by decide +kernel)⟩
theorem lw_p37 : lw_okq (⟨"ClocksTold$Asker", "tellOften", "(II)V"⟩, 4) := ⟨⟨by decide +kernel, by decide +kernel⟩, List.mem_of_getElem? (i := 160) (by decide +kernel), List.mem_of_getElem? (i := 639) (by decide +kernel), List.mem_of_getElem? (i := 640) (by decide +kernel)⟩
theorem lw_p38 : lw_okq (⟨"ClocksTold$Planner", "findOrder", "()V"⟩, 5) := ⟨⟨by decide +kernel, by decide +kernel⟩, List.mem_of_getElem? (i := 183) (by decide +kernel), List.mem_of_getElem? (i := 648) (by decide +kernel), List.mem_of_getElem? (i := 649) (by decide +kernel)⟩
theorem lw_p39 : lw_okq (⟨"ClocksTold$Planner", "tryOrders", "(III)V"⟩, 5) := ⟨⟨by decide +kernel, by decide +kernel⟩, List.mem_of_getElem? (i := 183) (by decide +kernel), List.mem_of_getElem? (i := 653) (by decide +kernel), List.mem_of_getElem? (i := 654) (by decide +kernel)⟩
theorem lw_p40 : lw_okq (⟨"ClocksTold$Planner", "keep", "(I)V"⟩, 5) := ⟨⟨by decide +kernel, by decide +kernel⟩, List.mem_of_getElem? (i := 183) (by decide +kernel), List.mem_of_getElem? (i := 657) (by decide +kernel), List.mem_of_getElem? (i := 658) (by decide +kernel)⟩
theorem lw_p41 : lw_okq (⟨"ClocksTold$Planner", "turn", "(LClocksTold$Course;I)I"⟩, 5) := ⟨⟨by decide +kernel, by decide +kernel⟩, List.mem_of_getElem? (i := 183) (by decide +kernel), List.mem_of_getElem? (i := 664) (by decide +kernel), List.mem_of_getElem? (i := 665) (by decide +kernel)⟩
theorem lw_p42 : lw_okq (⟨"ClocksTold$Planner", "findRow", "(I)V"⟩, 5) := ⟨⟨by decide +kernel, by decide +kernel⟩, List.mem_of_getElem? (i := 183) (by decide +kernel), List.mem_of_getElem? (i := 674) (by decide +kernel), List.mem_of_getElem? (i := 675) (by decide +kernel)⟩
theorem lw_p43 : lw_okq (⟨"ClocksTold$Planner", "tryRows", "(II)V"⟩, 5) := ⟨⟨by decide +kernel, by decide +kernel⟩, List.mem_of_getElem? (i := 183) (by decide +kernel), List.mem_of_getElem? (i := 678) (by decide +kernel), List.mem_of_getElem? (i := 679) (by decide +kernel)⟩
theorem lw_p44 : lw_okq (⟨"ClocksTold$Asker", "bestNext", "()I"⟩, 4) := ⟨⟨by decide +kernel, by decide +kernel⟩, List.mem_of_getElem? (i := 160) (by decide +kernel), List.mem_of_getElem? (i := 687) (by decide +kernel), List.mem_of_getElem? (i := 688) (by decide +kernel)⟩
theorem lw_p45 : lw_okq (⟨"ClocksTold$Rows", "empty", "()I"⟩, 3) := ⟨⟨by decide +kernel, by decide +kernel⟩, List.mem_of_getElem? (i := 63) (by decide +kernel), List.mem_of_getElem? (i := 697) (by decide +kernel), List.mem_of_getElem? (i := 698) (by decide +kernel)⟩
theorem lw_p46 : lw_okq (⟨"ClocksTold$Rows", "put", "(III)I"⟩, 3) := ⟨⟨by decide +kernel, by decide +kernel⟩, List.mem_of_getElem? (i := 63) (by decide +kernel), List.mem_of_getElem? (i := 701) (by decide +kernel), List.mem_of_getElem? (i := 702) (by decide +kernel)⟩
theorem lw_p47 : lw_okq (⟨"ClocksTold$Asker", "weighDays", "(I)V"⟩, 4) := ⟨⟨by decide +kernel, by decide +kernel⟩, List.mem_of_getElem? (i := 160) (by decide +kernel), List.mem_of_getElem? (i := 709) (by decide +kernel), List.mem_of_getElem? (i := 710) (by decide +kernel)⟩
def lw_privs_3 : List (MethodName × Nat) := [(⟨"ClocksTold$Bench", "addClause", "(I)V"⟩, 6), (⟨"ClocksTold$Shop", "hold", "(LClocksTold$Bench;)V"⟩, 11), (⟨"ClocksTold$Shop", "howManyUp", "(LClocksTold$Course;)I"⟩, 11), (⟨"ClocksTold$Shop", "leftOfAll", "(LClocksTold$Course;)I"⟩, 11), (⟨"ClocksTold$Asker", "behind", "(III)I"⟩, 4), (⟨"ClocksTold$Asker", "tellOften", "(II)V"⟩, 4), (⟨"ClocksTold$Planner", "findOrder", "()V"⟩, 5), (⟨"ClocksTold$Planner", "tryOrders", "(III)V"⟩, 5), (⟨"ClocksTold$Planner", "keep", "(I)V"⟩, 5), (⟨"ClocksTold$Planner", "turn", "(LClocksTold$Course;I)I"⟩, 5), (⟨"ClocksTold$Planner", "findRow", "(I)V"⟩, 5), (⟨"ClocksTold$Planner", "tryRows", "(II)V"⟩, 5), (⟨"ClocksTold$Asker", "bestNext", "()I"⟩, 4), (⟨"ClocksTold$Rows", "empty", "()I"⟩, 3), (⟨"ClocksTold$Rows", "put", "(III)I"⟩, 3), (⟨"ClocksTold$Asker", "weighDays", "(I)V"⟩, 4)]
theorem lw_r3 : ∀ q ∈ lw_privs_3, lw_okq q := List.forall_mem_cons.mpr ⟨lw_p32, List.forall_mem_cons.mpr ⟨lw_p33, List.forall_mem_cons.mpr ⟨lw_p34, List.forall_mem_cons.mpr ⟨lw_p35, List.forall_mem_cons.mpr ⟨lw_p36, List.forall_mem_cons.mpr ⟨lw_p37, List.forall_mem_cons.mpr ⟨lw_p38, List.forall_mem_cons.mpr ⟨lw_p39, List.forall_mem_cons.mpr ⟨lw_p40, List.forall_mem_cons.mpr ⟨lw_p41, List.forall_mem_cons.mpr ⟨lw_p42, List.forall_mem_cons.mpr ⟨lw_p43, List.forall_mem_cons.mpr ⟨lw_p44, List.forall_mem_cons.mpr ⟨lw_p45, List.forall_mem_cons.mpr ⟨lw_p46, List.forall_mem_cons.mpr ⟨lw_p47, fun _ h => absurd h List.not_mem_nil⟩⟩⟩⟩⟩⟩⟩⟩⟩⟩⟩⟩⟩⟩⟩⟩
theorem lw_p48 : lw_okq (⟨"ClocksTold$Asker", "weighNothing", "()V"⟩, 4) := ⟨⟨by decide +kernel, by decide +kernel⟩, List.mem_of_getElem? (i := 160) (by decide +kernel), List.mem_of_getElem? (i := 713) (by decide +kernel), List.mem_of_getElem? (i := 714) (by decide +kernel)⟩
theorem lw_p49 : lw_okq (⟨"ClocksTold$Asker", "weigh", "(III)V"⟩, 4) := ⟨⟨by decide +kernel, by decide +kernel⟩, List.mem_of_getElem? (i := 160) (by decide +kernel), List.mem_of_getElem? (i := 717) (by decide +kernel), List.mem_of_getElem? (i := 718) (by decide +kernel)⟩
theorem lw_p50 : lw_okq (⟨"ClocksTold$Rows", "cell", "(II)I"⟩, 3) := ⟨⟨by decide +kernel, by decide +kernel⟩, List.mem_of_getElem? (i := 63) (by decide +kernel), List.mem_of_getElem? (i := 721) (by decide +kernel), List.mem_of_getElem? (i := 722) (by decide +kernel)⟩
theorem lw_p51 : lw_okq (⟨"ClocksTold$Asker", "isSo", "(III)Z"⟩, 4) := ⟨⟨by decide +kernel, by decide +kernel⟩, List.mem_of_getElem? (i := 160) (by decide +kernel), List.mem_of_getElem? (i := 725) (by decide +kernel), List.mem_of_getElem? (i := 726) (by decide +kernel)⟩
theorem lw_p52 : lw_okq (⟨"ClocksTold$Asker", "weighValues", "(I)V"⟩, 4) := ⟨⟨by decide +kernel, by decide +kernel⟩, List.mem_of_getElem? (i := 160) (by decide +kernel), List.mem_of_getElem? (i := 733) (by decide +kernel), List.mem_of_getElem? (i := 734) (by decide +kernel)⟩
theorem lw_p53 : lw_okq (⟨"ClocksTold$Asker", "howManyUpBehind", "(I)I"⟩, 4) := ⟨⟨by decide +kernel, by decide +kernel⟩, List.mem_of_getElem? (i := 160) (by decide +kernel), List.mem_of_getElem? (i := 743) (by decide +kernel), List.mem_of_getElem? (i := 744) (by decide +kernel)⟩
theorem lw_p54 : lw_okq (⟨"ClocksTold$Asker", "monthEnds", "(I)I"⟩, 4) := ⟨⟨by decide +kernel, by decide +kernel⟩, List.mem_of_getElem? (i := 160) (by decide +kernel), List.mem_of_getElem? (i := 765) (by decide +kernel), List.mem_of_getElem? (i := 766) (by decide +kernel)⟩
theorem lw_p55 : lw_okq (⟨"ClocksTold$Tape", "has", "(I)Z"⟩, 3) := ⟨⟨by decide +kernel, by decide +kernel⟩, List.mem_of_getElem? (i := 261) (by decide +kernel), List.mem_of_getElem? (i := 787) (by decide +kernel), List.mem_of_getElem? (i := 788) (by decide +kernel)⟩
theorem lw_p56 : lw_okq (⟨"ClocksTold$Shop", "copyFrom", "(LClocksTold$Shop;)V"⟩, 11) := ⟨⟨by decide +kernel, by decide +kernel⟩, List.mem_of_getElem? (i := 29) (by decide +kernel), List.mem_of_getElem? (i := 795) (by decide +kernel), List.mem_of_getElem? (i := 796) (by decide +kernel)⟩
theorem lw_p57 : lw_okq (⟨"ClocksTold$Rows", "copyFrom", "(LClocksTold$Rows;)V"⟩, 3) := ⟨⟨by decide +kernel, by decide +kernel⟩, List.mem_of_getElem? (i := 63) (by decide +kernel), List.mem_of_getElem? (i := 801) (by decide +kernel), List.mem_of_getElem? (i := 802) (by decide +kernel)⟩
theorem lw_p58 : lw_okq (⟨"ClocksTold$Acts", "start", "(IIIII)I"⟩, 5) := ⟨⟨by decide +kernel, by decide +kernel⟩, List.mem_of_getElem? (i := 210) (by decide +kernel), List.mem_of_getElem? (i := 814) (by decide +kernel), List.mem_of_getElem? (i := 815) (by decide +kernel)⟩
theorem lw_p59 : lw_okq (⟨"ClocksTold$Acts", "run", "(IIII)I"⟩, 5) := ⟨⟨by decide +kernel, by decide +kernel⟩, List.mem_of_getElem? (i := 210) (by decide +kernel), List.mem_of_getElem? (i := 818) (by decide +kernel), List.mem_of_getElem? (i := 819) (by decide +kernel)⟩
theorem lw_p60 : lw_okq (⟨"ClocksTold$Acts", "note", "(I)V"⟩, 5) := ⟨⟨by decide +kernel, by decide +kernel⟩, List.mem_of_getElem? (i := 210) (by decide +kernel), List.mem_of_getElem? (i := 829) (by decide +kernel), List.mem_of_getElem? (i := 830) (by decide +kernel)⟩
theorem lw_p61 : lw_okq (⟨"ClocksTold$Tape", "become", "(II)V"⟩, 3) := ⟨⟨by decide +kernel, by decide +kernel⟩, List.mem_of_getElem? (i := 261) (by decide +kernel), List.mem_of_getElem? (i := 854) (by decide +kernel), List.mem_of_getElem? (i := 855) (by decide +kernel)⟩
theorem lw_p62 : lw_okq (⟨"ClocksTold$Tape", "cut", "(J)J"⟩, 3) := ⟨⟨by decide +kernel, by decide +kernel⟩, List.mem_of_getElem? (i := 261) (by decide +kernel), List.mem_of_getElem? (i := 865) (by decide +kernel), List.mem_of_getElem? (i := 866) (by decide +kernel)⟩
theorem lw_p63 : lw_okq (⟨"ClocksTold$Tape", "hasRun", "(II)Z"⟩, 3) := ⟨⟨by decide +kernel, by decide +kernel⟩, List.mem_of_getElem? (i := 261) (by decide +kernel), List.mem_of_getElem? (i := 877) (by decide +kernel), List.mem_of_getElem? (i := 878) (by decide +kernel)⟩
def lw_privs_4 : List (MethodName × Nat) := [(⟨"ClocksTold$Asker", "weighNothing", "()V"⟩, 4), (⟨"ClocksTold$Asker", "weigh", "(III)V"⟩, 4), (⟨"ClocksTold$Rows", "cell", "(II)I"⟩, 3), (⟨"ClocksTold$Asker", "isSo", "(III)Z"⟩, 4), (⟨"ClocksTold$Asker", "weighValues", "(I)V"⟩, 4), (⟨"ClocksTold$Asker", "howManyUpBehind", "(I)I"⟩, 4), (⟨"ClocksTold$Asker", "monthEnds", "(I)I"⟩, 4), (⟨"ClocksTold$Tape", "has", "(I)Z"⟩, 3), (⟨"ClocksTold$Shop", "copyFrom", "(LClocksTold$Shop;)V"⟩, 11), (⟨"ClocksTold$Rows", "copyFrom", "(LClocksTold$Rows;)V"⟩, 3), (⟨"ClocksTold$Acts", "start", "(IIIII)I"⟩, 5), (⟨"ClocksTold$Acts", "run", "(IIII)I"⟩, 5), (⟨"ClocksTold$Acts", "note", "(I)V"⟩, 5), (⟨"ClocksTold$Tape", "become", "(II)V"⟩, 3), (⟨"ClocksTold$Tape", "cut", "(J)J"⟩, 3), (⟨"ClocksTold$Tape", "hasRun", "(II)Z"⟩, 3)]
theorem lw_r4 : ∀ q ∈ lw_privs_4, lw_okq q := List.forall_mem_cons.mpr ⟨lw_p48, List.forall_mem_cons.mpr ⟨lw_p49, List.forall_mem_cons.mpr ⟨lw_p50, List.forall_mem_cons.mpr ⟨lw_p51, List.forall_mem_cons.mpr ⟨lw_p52, List.forall_mem_cons.mpr ⟨lw_p53, List.forall_mem_cons.mpr ⟨lw_p54, List.forall_mem_cons.mpr ⟨lw_p55, List.forall_mem_cons.mpr ⟨lw_p56, List.forall_mem_cons.mpr ⟨lw_p57, List.forall_mem_cons.mpr ⟨lw_p58, List.forall_mem_cons.mpr ⟨lw_p59, List.forall_mem_cons.mpr ⟨lw_p60, List.forall_mem_cons.mpr ⟨lw_p61, List.forall_mem_cons.mpr ⟨lw_p62, List.forall_mem_cons.mpr ⟨lw_p63, fun _ h => absurd h List.not_mem_nil⟩⟩⟩⟩⟩⟩⟩⟩⟩⟩⟩⟩⟩⟩⟩⟩
theorem lw_p64 : lw_okq (⟨"ClocksToldModel", "in", "(III)Z"⟩, 66) := ⟨⟨by decide +kernel, by decide +kernel⟩, List.mem_of_getElem? (i := 882) (by decide +kernel), List.mem_of_getElem? (i := 1091) (by decide +kernel), List.mem_of_getElem? (i := 1092) (by decide +kernel)⟩
theorem lw_p65 : lw_okq (⟨"ClocksToldModel", "balks", "(IZ)V"⟩, 66) := ⟨⟨by decide +kernel, by decide +kernel⟩, List.mem_of_getElem? (i := 882) (by decide +kernel), List.mem_of_getElem? (i := 1095) (by decide +kernel), List.mem_of_getElem? (i := 1096) (by decide +kernel)⟩
theorem lw_p66 : lw_okq (⟨"ClocksToldModel", "isClock", "(I)Z"⟩, 66) := ⟨⟨by decide +kernel, by decide +kernel⟩, List.mem_of_getElem? (i := 882) (by decide +kernel), List.mem_of_getElem? (i := 1103) (by decide +kernel), List.mem_of_getElem? (i := 1104) (by decide +kernel)⟩
theorem lw_p67 : lw_okq (⟨"ClocksToldModel", "has", "(II)Z"⟩, 66) := ⟨⟨by decide +kernel, by decide +kernel⟩, List.mem_of_getElem? (i := 882) (by decide +kernel), List.mem_of_getElem? (i := 1111) (by decide +kernel), List.mem_of_getElem? (i := 1112) (by decide +kernel)⟩
theorem lw_p68 : lw_okq (⟨"ClocksToldModel", "goesText", "(I)Z"⟩, 66) := ⟨⟨by decide +kernel, by decide +kernel⟩, List.mem_of_getElem? (i := 882) (by decide +kernel), List.mem_of_getElem? (i := 1127) (by decide +kernel), List.mem_of_getElem? (i := 1128) (by decide +kernel)⟩
theorem lw_p69 : lw_okq (⟨"ClocksToldModel", "takesClause", "(I)Z"⟩, 66) := ⟨⟨by decide +kernel, by decide +kernel⟩, List.mem_of_getElem? (i := 882) (by decide +kernel), List.mem_of_getElem? (i := 1131) (by decide +kernel), List.mem_of_getElem? (i := 1132) (by decide +kernel)⟩
theorem lw_p70 : lw_okq (⟨"ClocksToldModel", "takesHead", "(I)Z"⟩, 66) := ⟨⟨by decide +kernel, by decide +kernel⟩, List.mem_of_getElem? (i := 882) (by decide +kernel), List.mem_of_getElem? (i := 1135) (by decide +kernel), List.mem_of_getElem? (i := 1136) (by decide +kernel)⟩
theorem lw_p71 : lw_okq (⟨"ClocksToldModel", "peek", "()I"⟩, 66) := ⟨⟨by decide +kernel, by decide +kernel⟩, List.mem_of_getElem? (i := 882) (by decide +kernel), List.mem_of_getElem? (i := 1139) (by decide +kernel), List.mem_of_getElem? (i := 1140) (by decide +kernel)⟩
theorem lw_p72 : lw_okq (⟨"ClocksToldModel", "takesWord", "(II)Z"⟩, 66) := ⟨⟨by decide +kernel, by decide +kernel⟩, List.mem_of_getElem? (i := 882) (by decide +kernel), List.mem_of_getElem? (i := 1143) (by decide +kernel), List.mem_of_getElem? (i := 1144) (by decide +kernel)⟩
theorem lw_p73 : lw_okq (⟨"ClocksToldModel", "takes", "(I)Z"⟩, 66) := ⟨⟨by decide +kernel, by decide +kernel⟩, List.mem_of_getElem? (i := 882) (by decide +kernel), List.mem_of_getElem? (i := 1147) (by decide +kernel), List.mem_of_getElem? (i := 1148) (by decide +kernel)⟩
theorem lw_p74 : lw_okq (⟨"ClocksToldModel", "takesNumber", "()Z"⟩, 66) := ⟨⟨by decide +kernel, by decide +kernel⟩, List.mem_of_getElem? (i := 882) (by decide +kernel), List.mem_of_getElem? (i := 1151) (by decide +kernel), List.mem_of_getElem? (i := 1152) (by decide +kernel)⟩
theorem lw_p75 : lw_okq (⟨"ClocksToldModel", "isDigit", "()Z"⟩, 66) := ⟨⟨by decide +kernel, by decide +kernel⟩, List.mem_of_getElem? (i := 882) (by decide +kernel), List.mem_of_getElem? (i := 1155) (by decide +kernel), List.mem_of_getElem? (i := 1156) (by decide +kernel)⟩
theorem lw_p76 : lw_okq (⟨"ClocksToldModel", "takesE", "(I)Z"⟩, 66) := ⟨⟨by decide +kernel, by decide +kernel⟩, List.mem_of_getElem? (i := 882) (by decide +kernel), List.mem_of_getElem? (i := 1159) (by decide +kernel), List.mem_of_getElem? (i := 1160) (by decide +kernel)⟩
theorem lw_p77 : lw_okq (⟨"ClocksToldModel", "takesTest", "()Z"⟩, 66) := ⟨⟨by decide +kernel, by decide +kernel⟩, List.mem_of_getElem? (i := 882) (by decide +kernel), List.mem_of_getElem? (i := 1163) (by decide +kernel), List.mem_of_getElem? (i := 1164) (by decide +kernel)⟩
theorem lw_p78 : lw_okq (⟨"ClocksToldModel", "place", "(I)I"⟩, 66) := ⟨⟨by decide +kernel, by decide +kernel⟩, List.mem_of_getElem? (i := 882) (by decide +kernel), List.mem_of_getElem? (i := 1167) (by decide +kernel), List.mem_of_getElem? (i := 1168) (by decide +kernel)⟩
theorem lw_p79 : lw_okq (⟨"ClocksToldModel", "emits", "(I)V"⟩, 66) := ⟨⟨by decide +kernel, by decide +kernel⟩, List.mem_of_getElem? (i := 882) (by decide +kernel), List.mem_of_getElem? (i := 1171) (by decide +kernel), List.mem_of_getElem? (i := 1172) (by decide +kernel)⟩
def lw_privs_5 : List (MethodName × Nat) := [(⟨"ClocksToldModel", "in", "(III)Z"⟩, 66), (⟨"ClocksToldModel", "balks", "(IZ)V"⟩, 66), (⟨"ClocksToldModel", "isClock", "(I)Z"⟩, 66), (⟨"ClocksToldModel", "has", "(II)Z"⟩, 66), (⟨"ClocksToldModel", "goesText", "(I)Z"⟩, 66), (⟨"ClocksToldModel", "takesClause", "(I)Z"⟩, 66), (⟨"ClocksToldModel", "takesHead", "(I)Z"⟩, 66), (⟨"ClocksToldModel", "peek", "()I"⟩, 66), (⟨"ClocksToldModel", "takesWord", "(II)Z"⟩, 66), (⟨"ClocksToldModel", "takes", "(I)Z"⟩, 66), (⟨"ClocksToldModel", "takesNumber", "()Z"⟩, 66), (⟨"ClocksToldModel", "isDigit", "()Z"⟩, 66), (⟨"ClocksToldModel", "takesE", "(I)Z"⟩, 66), (⟨"ClocksToldModel", "takesTest", "()Z"⟩, 66), (⟨"ClocksToldModel", "place", "(I)I"⟩, 66), (⟨"ClocksToldModel", "emits", "(I)V"⟩, 66)]
theorem lw_r5 : ∀ q ∈ lw_privs_5, lw_okq q := List.forall_mem_cons.mpr ⟨lw_p64, List.forall_mem_cons.mpr ⟨lw_p65, List.forall_mem_cons.mpr ⟨lw_p66, List.forall_mem_cons.mpr ⟨lw_p67, List.forall_mem_cons.mpr ⟨lw_p68, List.forall_mem_cons.mpr ⟨lw_p69, List.forall_mem_cons.mpr ⟨lw_p70, List.forall_mem_cons.mpr ⟨lw_p71, List.forall_mem_cons.mpr ⟨lw_p72, List.forall_mem_cons.mpr ⟨lw_p73, List.forall_mem_cons.mpr ⟨lw_p74, List.forall_mem_cons.mpr ⟨lw_p75, List.forall_mem_cons.mpr ⟨lw_p76, List.forall_mem_cons.mpr ⟨lw_p77, List.forall_mem_cons.mpr ⟨lw_p78, List.forall_mem_cons.mpr ⟨lw_p79, fun _ h => absurd h List.not_mem_nil⟩⟩⟩⟩⟩⟩⟩⟩⟩⟩⟩⟩⟩⟩⟩⟩
theorem lw_p80 : lw_okq (⟨"ClocksToldModel", "whole", "()V"⟩, 66) := ⟨⟨by decide +kernel, by decide +kernel⟩, List.mem_of_getElem? (i := 882) (by decide +kernel), List.mem_of_getElem? (i := 1175) (by decide +kernel), List.mem_of_getElem? (i := 1176) (by decide +kernel)⟩
theorem lw_p81 : lw_okq (⟨"ClocksToldModel", "settle", "(I)V"⟩, 66) := ⟨⟨by decide +kernel, by decide +kernel⟩, List.mem_of_getElem? (i := 882) (by decide +kernel), List.mem_of_getElem? (i := 1179) (by decide +kernel), List.mem_of_getElem? (i := 1180) (by decide +kernel)⟩
theorem lw_p82 : lw_okq (⟨"ClocksToldModel", "isDay", "(I)Z"⟩, 66) := ⟨⟨by decide +kernel, by decide +kernel⟩, List.mem_of_getElem? (i := 882) (by decide +kernel), List.mem_of_getElem? (i := 1187) (by decide +kernel), List.mem_of_getElem? (i := 1188) (by decide +kernel)⟩
theorem lw_p83 : lw_okq (⟨"ClocksToldModel", "newsOf", "(II)I"⟩, 66) := ⟨⟨by decide +kernel, by decide +kernel⟩, List.mem_of_getElem? (i := 882) (by decide +kernel), List.mem_of_getElem? (i := 1191) (by decide +kernel), List.mem_of_getElem? (i := 1192) (by decide +kernel)⟩
theorem lw_p84 : lw_okq (⟨"ClocksToldModel", "newsNow", "(II)I"⟩, 66) := ⟨⟨by decide +kernel, by decide +kernel⟩, List.mem_of_getElem? (i := 882) (by decide +kernel), List.mem_of_getElem? (i := 1195) (by decide +kernel), List.mem_of_getElem? (i := 1196) (by decide +kernel)⟩
theorem lw_p85 : lw_okq (⟨"ClocksToldModel", "begin", "()I"⟩, 66) := ⟨⟨by decide +kernel, by decide +kernel⟩, List.mem_of_getElem? (i := 882) (by decide +kernel), List.mem_of_getElem? (i := 1199) (by decide +kernel), List.mem_of_getElem? (i := 1200) (by decide +kernel)⟩
theorem lw_p86 : lw_okq (⟨"ClocksToldModel", "behind", "()I"⟩, 66) := ⟨⟨by decide +kernel, by decide +kernel⟩, List.mem_of_getElem? (i := 882) (by decide +kernel), List.mem_of_getElem? (i := 1203) (by decide +kernel), List.mem_of_getElem? (i := 1204) (by decide +kernel)⟩
theorem lw_p87 : lw_okq (⟨"ClocksToldModel", "holds", "(III)Z"⟩, 66) := ⟨⟨by decide +kernel, by decide +kernel⟩, List.mem_of_getElem? (i := 882) (by decide +kernel), List.mem_of_getElem? (i := 1207) (by decide +kernel), List.mem_of_getElem? (i := 1208) (by decide +kernel)⟩
theorem lw_p88 : lw_okq (⟨"ClocksToldModel", "factOf", "(III)I"⟩, 66) := ⟨⟨by decide +kernel, by decide +kernel⟩, List.mem_of_getElem? (i := 882) (by decide +kernel), List.mem_of_getElem? (i := 1211) (by decide +kernel), List.mem_of_getElem? (i := 1212) (by decide +kernel)⟩
theorem lw_p89 : lw_okq (⟨"ClocksToldModel", "goEvening", "(I)I"⟩, 66) := ⟨⟨by decide +kernel, by decide +kernel⟩, List.mem_of_getElem? (i := 882) (by decide +kernel), List.mem_of_getElem? (i := 1219) (by decide +kernel), List.mem_of_getElem? (i := 1220) (by decide +kernel)⟩
theorem lw_p90 : lw_okq (⟨"ClocksToldModel", "holdsOf", "(I)I"⟩, 66) := ⟨⟨by decide +kernel, by decide +kernel⟩, List.mem_of_getElem? (i := 882) (by decide +kernel), List.mem_of_getElem? (i := 1223) (by decide +kernel), List.mem_of_getElem? (i := 1224) (by decide +kernel)⟩
theorem lw_p91 : lw_okq (⟨"ClocksToldModel", "pace", "()I"⟩, 66) := ⟨⟨by decide +kernel, by decide +kernel⟩, List.mem_of_getElem? (i := 882) (by decide +kernel), List.mem_of_getElem? (i := 1227) (by decide +kernel), List.mem_of_getElem? (i := 1228) (by decide +kernel)⟩
theorem lw_p92 : lw_okq (⟨"ClocksToldModel", "minds", "(II)Z"⟩, 66) := ⟨⟨by decide +kernel, by decide +kernel⟩, List.mem_of_getElem? (i := 882) (by decide +kernel), List.mem_of_getElem? (i := 1231) (by decide +kernel), List.mem_of_getElem? (i := 1232) (by decide +kernel)⟩
theorem lw_p93 : lw_okq (⟨"ClocksToldModel", "goNight", "()V"⟩, 66) := ⟨⟨by decide +kernel, by decide +kernel⟩, List.mem_of_getElem? (i := 882) (by decide +kernel), List.mem_of_getElem? (i := 1235) (by decide +kernel), List.mem_of_getElem? (i := 1236) (by decide +kernel)⟩
theorem lw_p94 : lw_okq (⟨"ClocksToldModel", "isUp", "(I)Z"⟩, 66) := ⟨⟨by decide +kernel, by decide +kernel⟩, List.mem_of_getElem? (i := 882) (by decide +kernel), List.mem_of_getElem? (i := 1239) (by decide +kernel), List.mem_of_getElem? (i := 1240) (by decide +kernel)⟩
theorem lw_p95 : lw_okq (⟨"ClocksToldModel", "isEvenings", "(I)Z"⟩, 66) := ⟨⟨by decide +kernel, by decide +kernel⟩, List.mem_of_getElem? (i := 882) (by decide +kernel), List.mem_of_getElem? (i := 1247) (by decide +kernel), List.mem_of_getElem? (i := 1248) (by decide +kernel)⟩
def lw_privs_6 : List (MethodName × Nat) := [(⟨"ClocksToldModel", "whole", "()V"⟩, 66), (⟨"ClocksToldModel", "settle", "(I)V"⟩, 66), (⟨"ClocksToldModel", "isDay", "(I)Z"⟩, 66), (⟨"ClocksToldModel", "newsOf", "(II)I"⟩, 66), (⟨"ClocksToldModel", "newsNow", "(II)I"⟩, 66), (⟨"ClocksToldModel", "begin", "()I"⟩, 66), (⟨"ClocksToldModel", "behind", "()I"⟩, 66), (⟨"ClocksToldModel", "holds", "(III)Z"⟩, 66), (⟨"ClocksToldModel", "factOf", "(III)I"⟩, 66), (⟨"ClocksToldModel", "goEvening", "(I)I"⟩, 66), (⟨"ClocksToldModel", "holdsOf", "(I)I"⟩, 66), (⟨"ClocksToldModel", "pace", "()I"⟩, 66), (⟨"ClocksToldModel", "minds", "(II)Z"⟩, 66), (⟨"ClocksToldModel", "goNight", "()V"⟩, 66), (⟨"ClocksToldModel", "isUp", "(I)Z"⟩, 66), (⟨"ClocksToldModel", "isEvenings", "(I)Z"⟩, 66)]
theorem lw_r6 : ∀ q ∈ lw_privs_6, lw_okq q := List.forall_mem_cons.mpr ⟨lw_p80, List.forall_mem_cons.mpr ⟨lw_p81, List.forall_mem_cons.mpr ⟨lw_p82, List.forall_mem_cons.mpr ⟨lw_p83, List.forall_mem_cons.mpr ⟨lw_p84, List.forall_mem_cons.mpr ⟨lw_p85, List.forall_mem_cons.mpr ⟨lw_p86, List.forall_mem_cons.mpr ⟨lw_p87, List.forall_mem_cons.mpr ⟨lw_p88, List.forall_mem_cons.mpr ⟨lw_p89, List.forall_mem_cons.mpr ⟨lw_p90, List.forall_mem_cons.mpr ⟨lw_p91, List.forall_mem_cons.mpr ⟨lw_p92, List.forall_mem_cons.mpr ⟨lw_p93, List.forall_mem_cons.mpr ⟨lw_p94, List.forall_mem_cons.mpr ⟨lw_p95, fun _ h => absurd h List.not_mem_nil⟩⟩⟩⟩⟩⟩⟩⟩⟩⟩⟩⟩⟩⟩⟩⟩
theorem lw_p96 : lw_okq (⟨"ClocksToldModel", "left", "(I)I"⟩, 66) := ⟨⟨by decide +kernel, by decide +kernel⟩, List.mem_of_getElem? (i := 882) (by decide +kernel), List.mem_of_getElem? (i := 1255) (by decide +kernel), List.mem_of_getElem? (i := 1256) (by decide +kernel)⟩
theorem lw_p97 : lw_okq (⟨"ClocksToldModel", "minded", "(I)I"⟩, 66) := ⟨⟨by decide +kernel, by decide +kernel⟩, List.mem_of_getElem? (i := 882) (by decide +kernel), List.mem_of_getElem? (i := 1259) (by decide +kernel), List.mem_of_getElem? (i := 1260) (by decide +kernel)⟩
theorem lw_p98 : lw_okq (⟨"ClocksToldModel", "whole", "(I)I"⟩, 66) := ⟨⟨by decide +kernel, by decide +kernel⟩, List.mem_of_getElem? (i := 882) (by decide +kernel), List.mem_of_getElem? (i := 1263) (by decide +kernel), List.mem_of_getElem? (i := 1264) (by decide +kernel)⟩
theorem lw_p99 : lw_okq (⟨"ClocksToldModel", "save", "()V"⟩, 66) := ⟨⟨by decide +kernel, by decide +kernel⟩, List.mem_of_getElem? (i := 882) (by decide +kernel), List.mem_of_getElem? (i := 1267) (by decide +kernel), List.mem_of_getElem? (i := 1268) (by decide +kernel)⟩
theorem lw_p100 : lw_okq (⟨"ClocksToldModel", "putBack", "()V"⟩, 66) := ⟨⟨by decide +kernel, by decide +kernel⟩, List.mem_of_getElem? (i := 882) (by decide +kernel), List.mem_of_getElem? (i := 1271) (by decide +kernel), List.mem_of_getElem? (i := 1272) (by decide +kernel)⟩
theorem lw_p101 : lw_okq (⟨"ClocksToldModel", "upMany", "()I"⟩, 66) := ⟨⟨by decide +kernel, by decide +kernel⟩, List.mem_of_getElem? (i := 882) (by decide +kernel), List.mem_of_getElem? (i := 1279) (by decide +kernel), List.mem_of_getElem? (i := 1280) (by decide +kernel)⟩
theorem lw_p102 : lw_okq (⟨"ClocksToldModel", "allLeft", "()I"⟩, 66) := ⟨⟨by decide +kernel, by decide +kernel⟩, List.mem_of_getElem? (i := 882) (by decide +kernel), List.mem_of_getElem? (i := 1283) (by decide +kernel), List.mem_of_getElem? (i := 1284) (by decide +kernel)⟩
theorem lw_p103 : lw_okq (⟨"ClocksToldModel", "goEvenings", "(II)V"⟩, 66) := ⟨⟨by decide +kernel, by decide +kernel⟩, List.mem_of_getElem? (i := 882) (by decide +kernel), List.mem_of_getElem? (i := 1291) (by decide +kernel), List.mem_of_getElem? (i := 1292) (by decide +kernel)⟩
theorem lw_p104 : lw_okq (⟨"ClocksToldModel", "layNews", "()V"⟩, 66) := ⟨⟨by decide +kernel, by decide +kernel⟩, List.mem_of_getElem? (i := 882) (by decide +kernel), List.mem_of_getElem? (i := 1299) (by decide +kernel), List.mem_of_getElem? (i := 1300) (by decide +kernel)⟩
theorem lw_p105 : lw_okq (⟨"ClocksToldModel", "layTurn", "(I)Z"⟩, 66) := ⟨⟨by decide +kernel, by decide +kernel⟩, List.mem_of_getElem? (i := 882) (by decide +kernel), List.mem_of_getElem? (i := 1303) (by decide +kernel), List.mem_of_getElem? (i := 1304) (by decide +kernel)⟩
theorem lw_p106 : lw_okq (⟨"ClocksToldModel", "goTurn", "()I"⟩, 66) := ⟨⟨by decide +kernel, by decide +kernel⟩, List.mem_of_getElem? (i := 882) (by decide +kernel), List.mem_of_getElem? (i := 1307) (by decide +kernel), List.mem_of_getElem? (i := 1308) (by decide +kernel)⟩
theorem lw_p107 : lw_okq (⟨"ClocksToldModel", "goWhole", "(I)I"⟩, 66) := ⟨⟨by decide +kernel, by decide +kernel⟩, List.mem_of_getElem? (i := 882) (by decide +kernel), List.mem_of_getElem? (i := 1311) (by decide +kernel), List.mem_of_getElem? (i := 1312) (by decide +kernel)⟩
theorem lw_p108 : lw_okq (⟨"ClocksToldModel", "isSeen", "(I)Z"⟩, 66) := ⟨⟨by decide +kernel, by decide +kernel⟩, List.mem_of_getElem? (i := 882) (by decide +kernel), List.mem_of_getElem? (i := 1331) (by decide +kernel), List.mem_of_getElem? (i := 1332) (by decide +kernel)⟩
theorem lw_p109 : lw_okq (⟨"ClocksToldModel", "lowest", "(III)J"⟩, 66) := ⟨⟨by decide +kernel, by decide +kernel⟩, List.mem_of_getElem? (i := 882) (by decide +kernel), List.mem_of_getElem? (i := 1344) (by decide +kernel), List.mem_of_getElem? (i := 1345) (by decide +kernel)⟩
theorem lw_p110 : lw_okq (⟨"ClocksToldModel", "divisor", "(II)I"⟩, 66) := ⟨⟨by decide +kernel, by decide +kernel⟩, List.mem_of_getElem? (i := 882) (by decide +kernel), List.mem_of_getElem? (i := 1348) (by decide +kernel), List.mem_of_getElem? (i := 1349) (by decide +kernel)⟩
theorem lw_p111 : lw_okq (⟨"ClocksToldModel", "isTape", "(I)Z"⟩, 66) := ⟨⟨by decide +kernel, by decide +kernel⟩, List.mem_of_getElem? (i := 882) (by decide +kernel), List.mem_of_getElem? (i := 1376) (by decide +kernel), List.mem_of_getElem? (i := 1377) (by decide +kernel)⟩
def lw_privs_7 : List (MethodName × Nat) := [(⟨"ClocksToldModel", "left", "(I)I"⟩, 66), (⟨"ClocksToldModel", "minded", "(I)I"⟩, 66), (⟨"ClocksToldModel", "whole", "(I)I"⟩, 66), (⟨"ClocksToldModel", "save", "()V"⟩, 66), (⟨"ClocksToldModel", "putBack", "()V"⟩, 66), (⟨"ClocksToldModel", "upMany", "()I"⟩, 66), (⟨"ClocksToldModel", "allLeft", "()I"⟩, 66), (⟨"ClocksToldModel", "goEvenings", "(II)V"⟩, 66), (⟨"ClocksToldModel", "layNews", "()V"⟩, 66), (⟨"ClocksToldModel", "layTurn", "(I)Z"⟩, 66), (⟨"ClocksToldModel", "goTurn", "()I"⟩, 66), (⟨"ClocksToldModel", "goWhole", "(I)I"⟩, 66), (⟨"ClocksToldModel", "isSeen", "(I)Z"⟩, 66), (⟨"ClocksToldModel", "lowest", "(III)J"⟩, 66), (⟨"ClocksToldModel", "divisor", "(II)I"⟩, 66), (⟨"ClocksToldModel", "isTape", "(I)Z"⟩, 66)]
theorem lw_r7 : ∀ q ∈ lw_privs_7, lw_okq q := List.forall_mem_cons.mpr ⟨lw_p96, List.forall_mem_cons.mpr ⟨lw_p97, List.forall_mem_cons.mpr ⟨lw_p98, List.forall_mem_cons.mpr ⟨lw_p99, List.forall_mem_cons.mpr ⟨lw_p100, List.forall_mem_cons.mpr ⟨lw_p101, List.forall_mem_cons.mpr ⟨lw_p102, List.forall_mem_cons.mpr ⟨lw_p103, List.forall_mem_cons.mpr ⟨lw_p104, List.forall_mem_cons.mpr ⟨lw_p105, List.forall_mem_cons.mpr ⟨lw_p106, List.forall_mem_cons.mpr ⟨lw_p107, List.forall_mem_cons.mpr ⟨lw_p108, List.forall_mem_cons.mpr ⟨lw_p109, List.forall_mem_cons.mpr ⟨lw_p110, List.forall_mem_cons.mpr ⟨lw_p111, fun _ h => absurd h List.not_mem_nil⟩⟩⟩⟩⟩⟩⟩⟩⟩⟩⟩⟩⟩⟩⟩⟩
theorem lw_p112 : lw_okq (⟨"ClocksToldModel", "ticksAct", "(II)I"⟩, 66) := ⟨⟨by decide +kernel, by decide +kernel⟩, List.mem_of_getElem? (i := 882) (by decide +kernel), List.mem_of_getElem? (i := 1392) (by decide +kernel), List.mem_of_getElem? (i := 1393) (by decide +kernel)⟩
theorem lw_p113 : lw_okq (⟨"ClocksToldModel", "body", "(I)V"⟩, 66) := ⟨⟨by decide +kernel, by decide +kernel⟩, List.mem_of_getElem? (i := 882) (by decide +kernel), List.mem_of_getElem? (i := 1396) (by decide +kernel), List.mem_of_getElem? (i := 1397) (by decide +kernel)⟩
theorem lw_p114 : lw_okq (⟨"ClocksToldModel", "clockTicks", "(II)I"⟩, 66) := ⟨⟨by decide +kernel, by decide +kernel⟩, List.mem_of_getElem? (i := 882) (by decide +kernel), List.mem_of_getElem? (i := 1400) (by decide +kernel), List.mem_of_getElem? (i := 1401) (by decide +kernel)⟩
theorem lw_p115 : lw_okq (⟨"ClocksToldModel", "strikesAct", "(II)I"⟩, 66) := ⟨⟨by decide +kernel, by decide +kernel⟩, List.mem_of_getElem? (i := 882) (by decide +kernel), List.mem_of_getElem? (i := 1404) (by decide +kernel), List.mem_of_getElem? (i := 1405) (by decide +kernel)⟩
theorem lw_p116 : lw_okq (⟨"ClocksToldModel", "fastStrikes", "(II)I"⟩, 66) := ⟨⟨by decide +kernel, by decide +kernel⟩, List.mem_of_getElem? (i := 882) (by decide +kernel), List.mem_of_getElem? (i := 1408) (by decide +kernel), List.mem_of_getElem? (i := 1409) (by decide +kernel)⟩
theorem lw_p117 : lw_okq (⟨"ClocksToldModel", "clockStrikes", "(II)I"⟩, 66) := ⟨⟨by decide +kernel, by decide +kernel⟩, List.mem_of_getElem? (i := 882) (by decide +kernel), List.mem_of_getElem? (i := 1412) (by decide +kernel), List.mem_of_getElem? (i := 1413) (by decide +kernel)⟩
theorem lw_p118 : lw_okq (⟨"ClocksToldModel", "tellsAct", "(II)I"⟩, 66) := ⟨⟨by decide +kernel, by decide +kernel⟩, List.mem_of_getElem? (i := 882) (by decide +kernel), List.mem_of_getElem? (i := 1416) (by decide +kernel), List.mem_of_getElem? (i := 1417) (by decide +kernel)⟩
theorem lw_p119 : lw_okq (⟨"ClocksToldModel", "clockTells", "(II)I"⟩, 66) := ⟨⟨by decide +kernel, by decide +kernel⟩, List.mem_of_getElem? (i := 882) (by decide +kernel), List.mem_of_getElem? (i := 1420) (by decide +kernel), List.mem_of_getElem? (i := 1421) (by decide +kernel)⟩
theorem lw_p120 : lw_okq (⟨"ClocksToldModel", "narrow", "(IJ)J"⟩, 66) := ⟨⟨by decide +kernel, by decide +kernel⟩, List.mem_of_getElem? (i := 882) (by decide +kernel), List.mem_of_getElem? (i := 1444) (by decide +kernel), List.mem_of_getElem? (i := 1445) (by decide +kernel)⟩
def lw_privs_8 : List (MethodName × Nat) := [(⟨"ClocksToldModel", "ticksAct", "(II)I"⟩, 66), (⟨"ClocksToldModel", "body", "(I)V"⟩, 66), (⟨"ClocksToldModel", "clockTicks", "(II)I"⟩, 66), (⟨"ClocksToldModel", "strikesAct", "(II)I"⟩, 66), (⟨"ClocksToldModel", "fastStrikes", "(II)I"⟩, 66), (⟨"ClocksToldModel", "clockStrikes", "(II)I"⟩, 66), (⟨"ClocksToldModel", "tellsAct", "(II)I"⟩, 66), (⟨"ClocksToldModel", "clockTells", "(II)I"⟩, 66), (⟨"ClocksToldModel", "narrow", "(IJ)J"⟩, 66)]
theorem lw_r8 : ∀ q ∈ lw_privs_8, lw_okq q := List.forall_mem_cons.mpr ⟨lw_p112, List.forall_mem_cons.mpr ⟨lw_p113, List.forall_mem_cons.mpr ⟨lw_p114, List.forall_mem_cons.mpr ⟨lw_p115, List.forall_mem_cons.mpr ⟨lw_p116, List.forall_mem_cons.mpr ⟨lw_p117, List.forall_mem_cons.mpr ⟨lw_p118, List.forall_mem_cons.mpr ⟨lw_p119, List.forall_mem_cons.mpr ⟨lw_p120, fun _ h => absurd h List.not_mem_nil⟩⟩⟩⟩⟩⟩⟩⟩⟩
def lw_privs : List (MethodName × Nat) := lw_privs_1 ++ (lw_privs_2 ++ (lw_privs_3 ++ (lw_privs_4 ++ (lw_privs_5 ++ (lw_privs_6 ++ (lw_privs_7 ++ (lw_privs_8)))))))
def lw_tbl : List Cond := k2_sels lw_privs ++ tables_1
theorem lw_privs_ok : ∀ q ∈ lw_privs, lw_okq q := by
  show ∀ q ∈ lw_privs_1 ++ (lw_privs_2 ++ (lw_privs_3 ++ (lw_privs_4 ++ (lw_privs_5 ++ (lw_privs_6 ++ (lw_privs_7 ++ (lw_privs_8))))))), lw_okq q
  exact List.forall_mem_append.mpr ⟨lw_r1, List.forall_mem_append.mpr ⟨lw_r2, List.forall_mem_append.mpr ⟨lw_r3, List.forall_mem_append.mpr ⟨lw_r4, List.forall_mem_append.mpr ⟨lw_r5, List.forall_mem_append.mpr ⟨lw_r6, List.forall_mem_append.mpr ⟨lw_r7, lw_r8⟩⟩⟩⟩⟩⟩⟩

-- names: out of the printed names
def RX0 : String := "ClocksTold$Acts"
def TX0 : u_T := fun k => match k with
  | 0 => ("ClocksTold$Acts", "bodies", "[I", true)
  | 1 => ("ClocksTold$Acts", "ran", "I", false)
  | 2 => ("ClocksTold$Acts", "number", "I", false)
  | 3 => ("ClocksTold$Acts", "kind", "I", false)
  | _ => ("ClocksTold$Acts", "value", "I", false)
def tyX0 : Nat → FieldType := fun k => match k with
  | 0 => .array .int
  | 1 => .int
  | 2 => .int
  | 3 => .int
  | _ => .int
abbrev wsX00 : List Cond := u_ws RX0 TX0 5
theorem nmX0 : ∀ a, a < 5 → ∀ b, b < 5 → a ≠ b → (TX0 a).2.1 ≠ (TX0 b).2.1 := by decide +kernel
theorem tyX0_ok : ∀ k, k < 5 → parseFieldDescriptor (TX0 k).2.2.1 = some (tyX0 k) := by decide +kernel
abbrev cX0_init : ByteArray := prog_2_method_1_code
def yX0_init : MethodName := ⟨RX0, "<init>", "()V"⟩
abbrev cX0_start : ByteArray := prog_2_method_2_code
def yX0_start : MethodName := ⟨RX0, "start", "(IIIII)I"⟩
abbrev cX0_run : ByteArray := prog_2_method_3_code
def yX0_run : MethodName := ⟨RX0, "run", "(IIII)I"⟩
abbrev cX0_bodyFrom : ByteArray := prog_2_method_4_code
def yX0_bodyFrom : MethodName := ⟨RX0, "bodyFrom", "(II)I"⟩
abbrev cX0_note : ByteArray := prog_2_method_5_code
def yX0_note : MethodName := ⟨RX0, "note", "(I)V"⟩
def RX1 : String := "ClocksTold$Asker"
def TX1 : u_T := fun k => match k with
  | 0 => ("ClocksTold$Asker", "shop", "LClocksTold$Shop;", true)
  | 1 => ("ClocksTold$Asker", "course", "LClocksTold$Course;", true)
  | 2 => ("ClocksTold$Asker", "fitting", "I", false)
  | _ => ("ClocksTold$Asker", "least", "I", false)
def tyX1 : Nat → FieldType := fun k => match k with
  | 0 => .object "ClocksTold$Shop"
  | 1 => .object "ClocksTold$Course"
  | 2 => .int
  | _ => .int
abbrev wsX10 : List Cond := u_ws RX1 TX1 4
theorem nmX1 : ∀ a, a < 4 → ∀ b, b < 4 → a ≠ b → (TX1 a).2.1 ≠ (TX1 b).2.1 := by decide +kernel
theorem tyX1_ok : ∀ k, k < 4 → parseFieldDescriptor (TX1 k).2.2.1 = some (tyX1 k) := by decide +kernel
abbrev cX1_init : ByteArray := prog_3_method_1_code
def yX1_init : MethodName := ⟨RX1, "<init>", "(LClocksTold$Shop;)V"⟩
abbrev cX1_begin : ByteArray := prog_3_method_2_code
def yX1_begin : MethodName := ⟨RX1, "begin", "()V"⟩
abbrev cX1_tellOften : ByteArray := prog_3_method_3_code
def yX1_tellOften : MethodName := ⟨RX1, "tellOften", "(II)V"⟩
abbrev cX1_behind : ByteArray := prog_3_method_4_code
def yX1_behind : MethodName := ⟨RX1, "behind", "(III)I"⟩
abbrev cX1_whole : ByteArray := prog_3_method_5_code
def yX1_whole : MethodName := ⟨RX1, "whole", "(I)I"⟩
abbrev cX1_minded : ByteArray := prog_3_method_6_code
def yX1_minded : MethodName := ⟨RX1, "minded", "(I)I"⟩
abbrev cX1_bestNext : ByteArray := prog_3_method_7_code
def yX1_bestNext : MethodName := ⟨RX1, "bestNext", "()I"⟩
abbrev cX1_howManyUpBehind : ByteArray := prog_3_method_8_code
def yX1_howManyUpBehind : MethodName := ⟨RX1, "howManyUpBehind", "(I)I"⟩
abbrev cX1_monthEnds : ByteArray := prog_3_method_9_code
def yX1_monthEnds : MethodName := ⟨RX1, "monthEnds", "(I)I"⟩
abbrev cX1_weighDays : ByteArray := prog_3_method_10_code
def yX1_weighDays : MethodName := ⟨RX1, "weighDays", "(I)V"⟩
abbrev cX1_weighValues : ByteArray := prog_3_method_11_code
def yX1_weighValues : MethodName := ⟨RX1, "weighValues", "(I)V"⟩
abbrev cX1_weighNothing : ByteArray := prog_3_method_12_code
def yX1_weighNothing : MethodName := ⟨RX1, "weighNothing", "()V"⟩
abbrev cX1_weigh : ByteArray := prog_3_method_13_code
def yX1_weigh : MethodName := ⟨RX1, "weigh", "(III)V"⟩
abbrev cX1_isSo : ByteArray := prog_3_method_14_code
def yX1_isSo : MethodName := ⟨RX1, "isSo", "(III)Z"⟩
def RX2 : String := "ClocksTold$Bench"
def TX2 : u_T := fun k => match k with
  | 0 => ("ClocksTold$Bench", "pace", "I", false)
  | 1 => ("ClocksTold$Bench", "clauses", "I", false)
  | 2 => ("ClocksTold$Bench", "weights", "[I", true)
  | 3 => ("ClocksTold$Bench", "ends", "[I", true)
  | 4 => ("ClocksTold$Bench", "stepCount", "I", false)
  | _ => ("ClocksTold$Bench", "steps", "[I", true)
def tyX2 : Nat → FieldType := fun k => match k with
  | 0 => .int
  | 1 => .int
  | 2 => .array .int
  | 3 => .array .int
  | 4 => .int
  | _ => .array .int
abbrev wsX20 : List Cond := u_ws RX2 TX2 6
theorem nmX2 : ∀ a, a < 6 → ∀ b, b < 6 → a ≠ b → (TX2 a).2.1 ≠ (TX2 b).2.1 := by decide +kernel
theorem tyX2_ok : ∀ k, k < 6 → parseFieldDescriptor (TX2 k).2.2.1 = some (tyX2 k) := by decide +kernel
abbrev cX2_init : ByteArray := prog_4_method_1_code
def yX2_init : MethodName := ⟨RX2, "<init>", "()V"⟩
abbrev cX2_clear : ByteArray := prog_4_method_2_code
def yX2_clear : MethodName := ⟨RX2, "clear", "()V"⟩
abbrev cX2_addStep : ByteArray := prog_4_method_3_code
def yX2_addStep : MethodName := ⟨RX2, "addStep", "(I)V"⟩
abbrev cX2_addClause : ByteArray := prog_4_method_4_code
def yX2_addClause : MethodName := ⟨RX2, "addClause", "(I)V"⟩
abbrev cX2_newsBy : ByteArray := prog_4_method_5_code
def yX2_newsBy : MethodName := ⟨RX2, "newsBy", "([I)I"⟩
abbrev cX2_isTrue : ByteArray := prog_4_method_6_code
def yX2_isTrue : MethodName := ⟨RX2, "isTrue", "(II[I)Z"⟩
abbrev cX2_testStep : ByteArray := prog_4_method_7_code
def yX2_testStep : MethodName := ⟨RX2, "testStep", "(III)I"⟩
abbrev cX2_passes : ByteArray := prog_4_method_8_code
def yX2_passes : MethodName := ⟨RX2, "passes", "(I[I)Z"⟩
def RX3 : String := "ClocksTold$Course"
def TX3 : u_T := fun k => match k with
  | 0 => ("ClocksTold$Course", "today", "I", false)
  | 1 => ("ClocksTold$Course", "heard", "[I", true)
  | _ => ("ClocksTold$Course", "balks", "[Z", true)
def tyX3 : Nat → FieldType := fun k => match k with
  | 0 => .int
  | 1 => .array .int
  | _ => .array .boolean
abbrev wsX30 : List Cond := u_ws RX3 TX3 3
theorem nmX3 : ∀ a, a < 3 → ∀ b, b < 3 → a ≠ b → (TX3 a).2.1 ≠ (TX3 b).2.1 := by decide +kernel
theorem tyX3_ok : ∀ k, k < 3 → parseFieldDescriptor (TX3 k).2.2.1 = some (tyX3 k) := by decide +kernel
abbrev cX3_init : ByteArray := prog_5_method_1_code
def yX3_init : MethodName := ⟨RX3, "<init>", "()V"⟩
abbrev cX3_copyFrom : ByteArray := prog_5_method_2_code
def yX3_copyFrom : MethodName := ⟨RX3, "copyFrom", "(LClocksTold$Course;)V"⟩
abbrev cX3_isUp : ByteArray := prog_5_method_3_code
def yX3_isUp : MethodName := ⟨RX3, "isUp", "(I)Z"⟩
def RX4 : String := "ClocksTold$Planner"
def TX4 : u_T := fun k => match k with
  | 0 => ("ClocksTold$Planner", "shop", "LClocksTold$Shop;", true)
  | 1 => ("ClocksTold$Planner", "courses", "[LClocksTold$Course;", true)
  | 2 => ("ClocksTold$Planner", "row", "[I", true)
  | 3 => ("ClocksTold$Planner", "bestRow", "[I", true)
  | _ => ("ClocksTold$Planner", "best", "I", false)
def tyX4 : Nat → FieldType := fun k => match k with
  | 0 => .object "ClocksTold$Shop"
  | 1 => .array (.object "ClocksTold$Course")
  | 2 => .array .int
  | 3 => .array .int
  | _ => .int
abbrev wsX40 : List Cond := u_ws RX4 TX4 5
theorem nmX4 : ∀ a, a < 5 → ∀ b, b < 5 → a ≠ b → (TX4 a).2.1 ≠ (TX4 b).2.1 := by decide +kernel
theorem tyX4_ok : ∀ k, k < 5 → parseFieldDescriptor (TX4 k).2.2.1 = some (tyX4 k) := by decide +kernel
abbrev cX4_init : ByteArray := prog_6_method_1_code
def yX4_init : MethodName := ⟨RX4, "<init>", "(LClocksTold$Shop;)V"⟩
abbrev cX4_findOrder : ByteArray := prog_6_method_2_code
def yX4_findOrder : MethodName := ⟨RX4, "findOrder", "()V"⟩
abbrev cX4_tryOrders : ByteArray := prog_6_method_3_code
def yX4_tryOrders : MethodName := ⟨RX4, "tryOrders", "(III)V"⟩
abbrev cX4_turn : ByteArray := prog_6_method_4_code
def yX4_turn : MethodName := ⟨RX4, "turn", "(LClocksTold$Course;I)I"⟩
abbrev cX4_findRow : ByteArray := prog_6_method_5_code
def yX4_findRow : MethodName := ⟨RX4, "findRow", "(I)V"⟩
abbrev cX4_tryRows : ByteArray := prog_6_method_6_code
def yX4_tryRows : MethodName := ⟨RX4, "tryRows", "(II)V"⟩
abbrev cX4_keep : ByteArray := prog_6_method_7_code
def yX4_keep : MethodName := ⟨RX4, "keep", "(I)V"⟩
def RX5 : String := "ClocksTold$Reader"
def TX5 : u_T := fun k => match k with
  | 0 => ("ClocksTold$Reader", "text", "[B", true)
  | 1 => ("ClocksTold$Reader", "length", "I", false)
  | 2 => ("ClocksTold$Reader", "place", "I", false)
  | 3 => ("ClocksTold$Reader", "sign", "I", false)
  | 4 => ("ClocksTold$Reader", "failed", "Z", false)
  | _ => ("ClocksTold$Reader", "bench", "LClocksTold$Bench;", false)
def tyX5 : Nat → FieldType := fun k => match k with
  | 0 => .array .byte
  | 1 => .int
  | 2 => .int
  | 3 => .int
  | 4 => .boolean
  | _ => .object "ClocksTold$Bench"
abbrev wsX50 : List Cond := u_ws RX5 TX5 6
theorem nmX5 : ∀ a, a < 6 → ∀ b, b < 6 → a ≠ b → (TX5 a).2.1 ≠ (TX5 b).2.1 := by decide +kernel
theorem tyX5_ok : ∀ k, k < 6 → parseFieldDescriptor (TX5 k).2.2.1 = some (tyX5 k) := by decide +kernel
abbrev cX5_init : ByteArray := prog_7_method_1_code
def yX5_init : MethodName := ⟨RX5, "<init>", "()V"⟩
abbrev cX5_take : ByteArray := prog_7_method_2_code
def yX5_take : MethodName := ⟨RX5, "take", "(B)Z"⟩
abbrev cX5_readInto : ByteArray := prog_7_method_3_code
def yX5_readInto : MethodName := ⟨RX5, "readInto", "(LClocksTold$Bench;)Z"⟩
abbrev cX5_step : ByteArray := prog_7_method_4_code
def yX5_step : MethodName := ⟨RX5, "step", "()V"⟩
abbrev cX5_need : ByteArray := prog_7_method_5_code
def yX5_need : MethodName := ⟨RX5, "need", "(C)V"⟩
abbrev cX5_word : ByteArray := prog_7_method_6_code
def yX5_word : MethodName := ⟨RX5, "word", "(Ljava/lang/String;)V"⟩
abbrev cX5_clause : ByteArray := prog_7_method_7_code
def yX5_clause : MethodName := ⟨RX5, "clause", "()V"⟩
abbrev cX5_number : ByteArray := prog_7_method_8_code
def yX5_number : MethodName := ⟨RX5, "number", "()I"⟩
abbrev cX5_isDigit : ByteArray := prog_7_method_9_code
def yX5_isDigit : MethodName := ⟨RX5, "isDigit", "()Z"⟩
abbrev cX5_either : ByteArray := prog_7_method_10_code
def yX5_either : MethodName := ⟨RX5, "either", "(I)V"⟩
abbrev cX5_both : ByteArray := prog_7_method_11_code
def yX5_both : MethodName := ⟨RX5, "both", "(I)V"⟩
abbrev cX5_factor : ByteArray := prog_7_method_12_code
def yX5_factor : MethodName := ⟨RX5, "factor", "(I)V"⟩
abbrev cX5_choice : ByteArray := prog_7_method_13_code
def yX5_choice : MethodName := ⟨RX5, "choice", "(Ljava/lang/String;)I"⟩
def RX6 : String := "ClocksTold$Rows"
def TX6 : u_T := fun k => match k with
  | 0 => ("ClocksTold$Rows", "limit", "I", true)
  | 1 => ("ClocksTold$Rows", "cells", "[I", true)
  | _ => ("ClocksTold$Rows", "count", "I", false)
def tyX6 : Nat → FieldType := fun k => match k with
  | 0 => .int
  | 1 => .array .int
  | _ => .int
abbrev wsX60 : List Cond := u_ws RX6 TX6 3
theorem nmX6 : ∀ a, a < 3 → ∀ b, b < 3 → a ≠ b → (TX6 a).2.1 ≠ (TX6 b).2.1 := by decide +kernel
theorem tyX6_ok : ∀ k, k < 3 → parseFieldDescriptor (TX6 k).2.2.1 = some (tyX6 k) := by decide +kernel
abbrev cX6_init : ByteArray := prog_8_method_1_code
def yX6_init : MethodName := ⟨RX6, "<init>", "(I)V"⟩
abbrev cX6_empty : ByteArray := prog_8_method_2_code
def yX6_empty : MethodName := ⟨RX6, "empty", "()I"⟩
abbrev cX6_put : ByteArray := prog_8_method_3_code
def yX6_put : MethodName := ⟨RX6, "put", "(III)I"⟩
abbrev cX6_cell : ByteArray := prog_8_method_4_code
def yX6_cell : MethodName := ⟨RX6, "cell", "(II)I"⟩
abbrev cX6_copyFrom : ByteArray := prog_8_method_5_code
def yX6_copyFrom : MethodName := ⟨RX6, "copyFrom", "(LClocksTold$Rows;)V"⟩
def RX7 : String := "ClocksTold$Shop"
def TX7 : u_T := fun k => match k with
  | 0 => ("ClocksTold$Shop", "clocks", "I", false)
  | 1 => ("ClocksTold$Shop", "kinds", "[I", true)
  | 2 => ("ClocksTold$Shop", "values", "[I", true)
  | 3 => ("ClocksTold$Shop", "rows", "[I", true)
  | 4 => ("ClocksTold$Shop", "sums", "[I", true)
  | 5 => ("ClocksTold$Shop", "now", "LClocksTold$Course;", true)
  | 6 => ("ClocksTold$Shop", "seen", "LClocksTold$Rows;", true)
  | 7 => ("ClocksTold$Shop", "month", "LClocksTold$Rows;", true)
  | 8 => ("ClocksTold$Shop", "book", "LClocksTold$Rows;", true)
  | 9 => ("ClocksTold$Shop", "worth", "[I", true)
  | _ => ("ClocksTold$Shop", "bench", "LClocksTold$Bench;", false)
def tyX7 : Nat → FieldType := fun k => match k with
  | 0 => .int
  | 1 => .array .int
  | 2 => .array .int
  | 3 => .array .int
  | 4 => .array .int
  | 5 => .object "ClocksTold$Course"
  | 6 => .object "ClocksTold$Rows"
  | 7 => .object "ClocksTold$Rows"
  | 8 => .object "ClocksTold$Rows"
  | 9 => .array .int
  | _ => .object "ClocksTold$Bench"
abbrev wsX70 : List Cond := u_ws RX7 TX7 11
theorem nmX7 : ∀ a, a < 11 → ∀ b, b < 11 → a ≠ b → (TX7 a).2.1 ≠ (TX7 b).2.1 := by decide +kernel
theorem tyX7_ok : ∀ k, k < 11 → parseFieldDescriptor (TX7 k).2.2.1 = some (tyX7 k) := by decide +kernel
abbrev cX7_init : ByteArray := prog_9_method_1_code
def yX7_init : MethodName := ⟨RX7, "<init>", "()V"⟩
abbrev cX7_copyFrom : ByteArray := prog_9_method_2_code
def yX7_copyFrom : MethodName := ⟨RX7, "copyFrom", "(LClocksTold$Shop;)V"⟩
abbrev cX7_enter : ByteArray := prog_9_method_3_code
def yX7_enter : MethodName := ⟨RX7, "enter", "(III)I"⟩
abbrev cX7_hold : ByteArray := prog_9_method_4_code
def yX7_hold : MethodName := ⟨RX7, "hold", "(LClocksTold$Bench;)V"⟩
abbrev cX7_pace : ByteArray := prog_9_method_5_code
def yX7_pace : MethodName := ⟨RX7, "pace", "()I"⟩
abbrev cX7_learn : ByteArray := prog_9_method_6_code
def yX7_learn : MethodName := ⟨RX7, "learn", "(I)V"⟩
abbrev cX7_newsOf : ByteArray := prog_9_method_7_code
def yX7_newsOf : MethodName := ⟨RX7, "newsOf", "(II)I"⟩
abbrev cX7_newsAhead : ByteArray := prog_9_method_8_code
def yX7_newsAhead : MethodName := ⟨RX7, "newsAhead", "(II)I"⟩
abbrev cX7_leftOf : ByteArray := prog_9_method_9_code
def yX7_leftOf : MethodName := ⟨RX7, "leftOf", "(LClocksTold$Course;I)I"⟩
abbrev cX7_leftOfAll : ByteArray := prog_9_method_10_code
def yX7_leftOfAll : MethodName := ⟨RX7, "leftOfAll", "(LClocksTold$Course;)I"⟩
abbrev cX7_howManyUp : ByteArray := prog_9_method_11_code
def yX7_howManyUp : MethodName := ⟨RX7, "howManyUp", "(LClocksTold$Course;)I"⟩
abbrev cX7_holds : ByteArray := prog_9_method_12_code
def yX7_holds : MethodName := ⟨RX7, "holds", "(II)I"⟩
abbrev cX7_minds : ByteArray := prog_9_method_13_code
def yX7_minds : MethodName := ⟨RX7, "minds", "(II)Z"⟩
abbrev cX7_evening : ByteArray := prog_9_method_14_code
def yX7_evening : MethodName := ⟨RX7, "evening", "(LClocksTold$Course;I)I"⟩
abbrev cX7_night : ByteArray := prog_9_method_15_code
def yX7_night : MethodName := ⟨RX7, "night", "(LClocksTold$Course;)V"⟩
def RX8 : String := "ClocksTold$Tape"
def TX8 : u_T := fun k => match k with
  | 0 => ("ClocksTold$Tape", "sort", "I", false)
  | 1 => ("ClocksTold$Tape", "length", "I", false)
  | _ => ("ClocksTold$Tape", "items", "[J", true)
def tyX8 : Nat → FieldType := fun k => match k with
  | 0 => .int
  | 1 => .int
  | _ => .array .long
abbrev wsX80 : List Cond := u_ws RX8 TX8 3
theorem nmX8 : ∀ a, a < 3 → ∀ b, b < 3 → a ≠ b → (TX8 a).2.1 ≠ (TX8 b).2.1 := by decide +kernel
theorem tyX8_ok : ∀ k, k < 3 → parseFieldDescriptor (TX8 k).2.2.1 = some (tyX8 k) := by decide +kernel
abbrev cX8_init : ByteArray := prog_10_method_1_code
def yX8_init : MethodName := ⟨RX8, "<init>", "()V"⟩
abbrev cX8_become : ByteArray := prog_10_method_2_code
def yX8_become : MethodName := ⟨RX8, "become", "(II)V"⟩
abbrev cX8_has : ByteArray := prog_10_method_3_code
def yX8_has : MethodName := ⟨RX8, "has", "(I)Z"⟩
abbrev cX8_hasRun : ByteArray := prog_10_method_4_code
def yX8_hasRun : MethodName := ⟨RX8, "hasRun", "(II)Z"⟩
abbrev cX8_cut : ByteArray := prog_10_method_5_code
def yX8_cut : MethodName := ⟨RX8, "cut", "(J)J"⟩
def RX9 : String := "ClocksTold"
def TX9 : u_T := fun k => match k with
  | 0 => ("ClocksTold", "shop", "LClocksTold$Shop;", true)
  | 1 => ("ClocksTold", "image", "LClocksTold$Shop;", true)
  | 2 => ("ClocksTold", "imaged", "Z", false)
  | 3 => ("ClocksTold", "reader", "LClocksTold$Reader;", true)
  | 4 => ("ClocksTold", "benches", "[LClocksTold$Bench;", true)
  | 5 => ("ClocksTold", "benchCount", "I", false)
  | 6 => ("ClocksTold", "asker", "LClocksTold$Asker;", true)
  | 7 => ("ClocksTold", "planner", "LClocksTold$Planner;", true)
  | 8 => ("ClocksTold", "acts", "LClocksTold$Acts;", true)
  | _ => ("ClocksTold", "tapes", "[LClocksTold$Tape;", true)
def tyX9 : Nat → FieldType := fun k => match k with
  | 0 => .object "ClocksTold$Shop"
  | 1 => .object "ClocksTold$Shop"
  | 2 => .boolean
  | 3 => .object "ClocksTold$Reader"
  | 4 => .array (.object "ClocksTold$Bench")
  | 5 => .int
  | 6 => .object "ClocksTold$Asker"
  | 7 => .object "ClocksTold$Planner"
  | 8 => .object "ClocksTold$Acts"
  | _ => .array (.object "ClocksTold$Tape")
abbrev wsX90 : List Cond := u_ws RX9 TX9 10
theorem nmX9 : ∀ a, a < 10 → ∀ b, b < 10 → a ≠ b → (TX9 a).2.1 ≠ (TX9 b).2.1 := by decide +kernel
theorem tyX9_ok : ∀ k, k < 10 → parseFieldDescriptor (TX9 k).2.2.1 = some (tyX9 k) := by decide +kernel
abbrev cX9_init : ByteArray := prog_1_method_1_code
def yX9_init : MethodName := ⟨RX9, "<init>", "()V"⟩
abbrev cX9_clock : ByteArray := prog_1_method_2_code
def yX9_clock : MethodName := ⟨RX9, "clock", "(III)I"⟩
abbrev cX9_of : ByteArray := prog_1_method_3_code
def yX9_of : MethodName := ⟨RX9, "of", "(II)I"⟩
abbrev cX9_news : ByteArray := prog_1_method_4_code
def yX9_news : MethodName := ⟨RX9, "news", "(II)I"⟩
abbrev cX9_set : ByteArray := prog_1_method_5_code
def yX9_set : MethodName := ⟨RX9, "set", "(II)I"⟩
abbrev cX9_balk : ByteArray := prog_1_method_6_code
def yX9_balk : MethodName := ⟨RX9, "balk", "(IZ)I"⟩
abbrev cX9_row : ByteArray := prog_1_method_7_code
def yX9_row : MethodName := ⟨RX9, "row", "(III)I"⟩
abbrev cX9_feed : ByteArray := prog_1_method_8_code
def yX9_feed : MethodName := ⟨RX9, "feed", "(I)I"⟩
abbrev cX9_bench : ByteArray := prog_1_method_9_code
def yX9_bench : MethodName := ⟨RX9, "bench", "()I"⟩
abbrev cX9_told : ByteArray := prog_1_method_10_code
def yX9_told : MethodName := ⟨RX9, "told", "(I)I"⟩
abbrev cX9_tell : ByteArray := prog_1_method_11_code
def yX9_tell : MethodName := ⟨RX9, "tell", "(I)I"⟩
abbrev cX9_pass : ByteArray := prog_1_method_12_code
def yX9_pass : MethodName := ⟨RX9, "pass", "(I)I"⟩
abbrev cX9_on : ByteArray := prog_1_method_13_code
def yX9_on : MethodName := ⟨RX9, "on", "(III)I"⟩
abbrev cX9_soonest : ByteArray := prog_1_method_14_code
def yX9_soonest : MethodName := ⟨RX9, "soonest", "(I)I"⟩
abbrev cX9_most : ByteArray := prog_1_method_15_code
def yX9_most : MethodName := ⟨RX9, "most", "(II)I"⟩
abbrev cX9_next : ByteArray := prog_1_method_16_code
def yX9_next : MethodName := ⟨RX9, "next", "()I"⟩
abbrev cX9_see : ByteArray := prog_1_method_17_code
def yX9_see : MethodName := ⟨RX9, "see", "(III)I"⟩
abbrev cX9_since : ByteArray := prog_1_method_18_code
def yX9_since : MethodName := ⟨RX9, "since", "(II)I"⟩
abbrev cX9_can : ByteArray := prog_1_method_19_code
def yX9_can : MethodName := ⟨RX9, "can", "(II)I"⟩
abbrev cX9_odds : ByteArray := prog_1_method_20_code
def yX9_odds : MethodName := ⟨RX9, "odds", "(II)J"⟩
abbrev cX9_mean : ByteArray := prog_1_method_21_code
def yX9_mean : MethodName := ⟨RX9, "mean", "(I)J"⟩
abbrev cX9_month : ByteArray := prog_1_method_22_code
def yX9_month : MethodName := ⟨RX9, "month", "(I)I"⟩
abbrev cX9_ends : ByteArray := prog_1_method_23_code
def yX9_ends : MethodName := ⟨RX9, "ends", "(I)I"⟩
abbrev cX9_book : ByteArray := prog_1_method_24_code
def yX9_book : MethodName := ⟨RX9, "book", "(II)I"⟩
abbrev cX9_looked : ByteArray := prog_1_method_25_code
def yX9_looked : MethodName := ⟨RX9, "looked", "()I"⟩
abbrev cX9_judge : ByteArray := prog_1_method_26_code
def yX9_judge : MethodName := ⟨RX9, "judge", "(II)I"⟩
abbrev cX9_image : ByteArray := prog_1_method_27_code
def yX9_image : MethodName := ⟨RX9, "image", "()I"⟩
abbrev cX9_undo : ByteArray := prog_1_method_28_code
def yX9_undo : MethodName := ⟨RX9, "undo", "()I"⟩
abbrev cX9_act : ByteArray := prog_1_method_29_code
def yX9_act : MethodName := ⟨RX9, "act", "(III)I"⟩
abbrev cX9_trace : ByteArray := prog_1_method_30_code
def yX9_trace : MethodName := ⟨RX9, "trace", "(I)I"⟩
abbrev cX9_taken : ByteArray := prog_1_method_31_code
def yX9_taken : MethodName := ⟨RX9, "taken", "(II)I"⟩
abbrev cX9_count : ByteArray := prog_1_method_32_code
def yX9_count : MethodName := ⟨RX9, "count", "(I)I"⟩
abbrev cX9_tape : ByteArray := prog_1_method_33_code
def yX9_tape : MethodName := ⟨RX9, "tape", "(III)I"⟩
abbrev cX9_item : ByteArray := prog_1_method_34_code
def yX9_item : MethodName := ⟨RX9, "item", "(IIJ)I"⟩
abbrev cX9_read : ByteArray := prog_1_method_35_code
def yX9_read : MethodName := ⟨RX9, "read", "(II)J"⟩
abbrev cX9_shift : ByteArray := prog_1_method_36_code
def yX9_shift : MethodName := ⟨RX9, "shift", "(IIIII)I"⟩
abbrev cX9_isClock : ByteArray := prog_1_method_37_code
def yX9_isClock : MethodName := ⟨RX9, "isClock", "(I)Z"⟩
abbrev cX9_isTape : ByteArray := prog_1_method_38_code
def yX9_isTape : MethodName := ⟨RX9, "isTape", "(I)Z"⟩
abbrev cX9_within : ByteArray := prog_1_method_39_code
def yX9_within : MethodName := ⟨RX9, "within", "(III)Z"⟩
abbrev cX9_isUnder : ByteArray := prog_1_method_40_code
def yX9_isUnder : MethodName := ⟨RX9, "isUnder", "(II)Z"⟩
abbrev cX9_lowest : ByteArray := prog_1_method_41_code
def yX9_lowest : MethodName := ⟨RX9, "lowest", "(III)J"⟩
abbrev cX9_commonDivisor : ByteArray := prog_1_method_42_code
def yX9_commonDivisor : MethodName := ⟨RX9, "commonDivisor", "(II)I"⟩
def RX10 : String := "ClocksToldModel"
def TX10 : u_T := fun k => match k with
  | 0 => ("ClocksToldModel", "clocks", "I", false)
  | 1 => ("ClocksToldModel", "balked", "I", false)
  | 2 => ("ClocksToldModel", "today", "I", false)
  | 3 => ("ClocksToldModel", "kind", "[I", true)
  | 4 => ("ClocksToldModel", "v", "[I", true)
  | 5 => ("ClocksToldModel", "heard", "[I", true)
  | 6 => ("ClocksToldModel", "rows", "[I", true)
  | 7 => ("ClocksToldModel", "benches", "I", false)
  | 8 => ("ClocksToldModel", "the", "I", false)
  | 9 => ("ClocksToldModel", "fed", "I", false)
  | 10 => ("ClocksToldModel", "at", "I", false)
  | 11 => ("ClocksToldModel", "digits", "I", false)
  | 12 => ("ClocksToldModel", "text", "[I", true)
  | 13 => ("ClocksToldModel", "clauses", "[I", true)
  | 14 => ("ClocksToldModel", "word", "[I", true)
  | 15 => ("ClocksToldModel", "number", "[I", true)
  | 16 => ("ClocksToldModel", "from", "[I", true)
  | 17 => ("ClocksToldModel", "to", "[I", true)
  | 18 => ("ClocksToldModel", "sign", "[I", true)
  | 19 => ("ClocksToldModel", "waits", "[I", true)
  | 20 => ("ClocksToldModel", "signs", "I", false)
  | 21 => ("ClocksToldModel", "waiting", "I", false)
  | 22 => ("ClocksToldModel", "open", "I", false)
  | 23 => ("ClocksToldModel", "letters", "[I", true)
  | 24 => ("ClocksToldModel", "pile", "[Z", true)
  | 25 => ("ClocksToldModel", "isLaid", "Z", false)
  | 26 => ("ClocksToldModel", "laid", "[I", true)
  | 27 => ("ClocksToldModel", "laidFrom", "[I", true)
  | 28 => ("ClocksToldModel", "keptBalked", "I", false)
  | 29 => ("ClocksToldModel", "keptToday", "I", false)
  | 30 => ("ClocksToldModel", "keptHeard", "[I", true)
  | 31 => ("ClocksToldModel", "turn", "[I", true)
  | 32 => ("ClocksToldModel", "bestTurn", "[I", true)
  | 33 => ("ClocksToldModel", "seen", "I", false)
  | 34 => ("ClocksToldModel", "seenWho", "[I", true)
  | 35 => ("ClocksToldModel", "seenMore", "[I", true)
  | 36 => ("ClocksToldModel", "seenWhen", "[I", true)
  | 37 => ("ClocksToldModel", "months", "I", false)
  | 38 => ("ClocksToldModel", "books", "I", false)
  | 39 => ("ClocksToldModel", "monthWho", "[I", true)
  | 40 => ("ClocksToldModel", "bookWho", "[I", true)
  | 41 => ("ClocksToldModel", "bookHeard", "[I", true)
  | 42 => ("ClocksToldModel", "hasImage", "Z", false)
  | 43 => ("ClocksToldModel", "imageThe", "I", false)
  | 44 => ("ClocksToldModel", "imageClocks", "I", false)
  | 45 => ("ClocksToldModel", "imageBalked", "I", false)
  | 46 => ("ClocksToldModel", "imageToday", "I", false)
  | 47 => ("ClocksToldModel", "imageSeen", "I", false)
  | 48 => ("ClocksToldModel", "imageMonths", "I", false)
  | 49 => ("ClocksToldModel", "imageBooks", "I", false)
  | 50 => ("ClocksToldModel", "imageKind", "[I", true)
  | 51 => ("ClocksToldModel", "imageV", "[I", true)
  | 52 => ("ClocksToldModel", "imageHeard", "[I", true)
  | 53 => ("ClocksToldModel", "imageRows", "[I", true)
  | 54 => ("ClocksToldModel", "imageSeenWho", "[I", true)
  | 55 => ("ClocksToldModel", "imageMore", "[I", true)
  | 56 => ("ClocksToldModel", "imageWhen", "[I", true)
  | 57 => ("ClocksToldModel", "imageWho", "[I", true)
  | 58 => ("ClocksToldModel", "imageBookWho", "[I", true)
  | 59 => ("ClocksToldModel", "imageBookHeard", "[I", true)
  | 60 => ("ClocksToldModel", "ran", "I", false)
  | 61 => ("ClocksToldModel", "bodies", "[I", true)
  | 62 => ("ClocksToldModel", "sort", "[I", true)
  | 63 => ("ClocksToldModel", "length", "[I", true)
  | 64 => ("ClocksToldModel", "item", "[J", true)
  | _ => ("ClocksToldModel", "aside", "[J", true)
def tyX10 : Nat → FieldType := fun k => match k with
  | 0 => .int
  | 1 => .int
  | 2 => .int
  | 3 => .array .int
  | 4 => .array .int
  | 5 => .array .int
  | 6 => .array .int
  | 7 => .int
  | 8 => .int
  | 9 => .int
  | 10 => .int
  | 11 => .int
  | 12 => .array .int
  | 13 => .array .int
  | 14 => .array .int
  | 15 => .array .int
  | 16 => .array .int
  | 17 => .array .int
  | 18 => .array .int
  | 19 => .array .int
  | 20 => .int
  | 21 => .int
  | 22 => .int
  | 23 => .array .int
  | 24 => .array .boolean
  | 25 => .boolean
  | 26 => .array .int
  | 27 => .array .int
  | 28 => .int
  | 29 => .int
  | 30 => .array .int
  | 31 => .array .int
  | 32 => .array .int
  | 33 => .int
  | 34 => .array .int
  | 35 => .array .int
  | 36 => .array .int
  | 37 => .int
  | 38 => .int
  | 39 => .array .int
  | 40 => .array .int
  | 41 => .array .int
  | 42 => .boolean
  | 43 => .int
  | 44 => .int
  | 45 => .int
  | 46 => .int
  | 47 => .int
  | 48 => .int
  | 49 => .int
  | 50 => .array .int
  | 51 => .array .int
  | 52 => .array .int
  | 53 => .array .int
  | 54 => .array .int
  | 55 => .array .int
  | 56 => .array .int
  | 57 => .array .int
  | 58 => .array .int
  | 59 => .array .int
  | 60 => .int
  | 61 => .array .int
  | 62 => .array .int
  | 63 => .array .int
  | 64 => .array .long
  | _ => .array .long
abbrev wsX100 : List Cond := u_ws RX10 TX10 66
theorem nmX10 : ∀ a, a < 66 → ∀ b, b < 66 → a ≠ b → (TX10 a).2.1 ≠ (TX10 b).2.1 := by decide +kernel
theorem tyX10_ok : ∀ k, k < 66 → parseFieldDescriptor (TX10 k).2.2.1 = some (tyX10 k) := by decide +kernel
abbrev cX10_init : ByteArray := prog_12_method_1_code
def yX10_init : MethodName := ⟨RX10, "<init>", "()V"⟩
abbrev cX10_in : ByteArray := prog_12_method_2_code
def yX10_in : MethodName := ⟨RX10, "in", "(III)Z"⟩
abbrev cX10_has : ByteArray := prog_12_method_3_code
def yX10_has : MethodName := ⟨RX10, "has", "(II)Z"⟩
abbrev cX10_isClock : ByteArray := prog_12_method_4_code
def yX10_isClock : MethodName := ⟨RX10, "isClock", "(I)Z"⟩
abbrev cX10_isEvenings : ByteArray := prog_12_method_5_code
def yX10_isEvenings : MethodName := ⟨RX10, "isEvenings", "(I)Z"⟩
abbrev cX10_isDay : ByteArray := prog_12_method_6_code
def yX10_isDay : MethodName := ⟨RX10, "isDay", "(I)Z"⟩
abbrev cX10_balks : ByteArray := prog_12_method_7_code
def yX10_balks : MethodName := ⟨RX10, "balks", "(IZ)V"⟩
abbrev cX10_clock : ByteArray := prog_12_method_8_code
def yX10_clock : MethodName := ⟨RX10, "clock", "(III)I"⟩
abbrev cX10_set : ByteArray := prog_12_method_9_code
def yX10_set : MethodName := ⟨RX10, "set", "(II)I"⟩
abbrev cX10_balk : ByteArray := prog_12_method_10_code
def yX10_balk : MethodName := ⟨RX10, "balk", "(IZ)I"⟩
abbrev cX10_row : ByteArray := prog_12_method_11_code
def yX10_row : MethodName := ⟨RX10, "row", "(III)I"⟩
abbrev cX10_feed : ByteArray := prog_12_method_12_code
def yX10_feed : MethodName := ⟨RX10, "feed", "(I)I"⟩
abbrev cX10_peek : ByteArray := prog_12_method_13_code
def yX10_peek : MethodName := ⟨RX10, "peek", "()I"⟩
abbrev cX10_takes : ByteArray := prog_12_method_14_code
def yX10_takes : MethodName := ⟨RX10, "takes", "(I)Z"⟩
abbrev cX10_takesWord : ByteArray := prog_12_method_15_code
def yX10_takesWord : MethodName := ⟨RX10, "takesWord", "(II)Z"⟩
abbrev cX10_isDigit : ByteArray := prog_12_method_16_code
def yX10_isDigit : MethodName := ⟨RX10, "isDigit", "()Z"⟩
abbrev cX10_takesNumber : ByteArray := prog_12_method_17_code
def yX10_takesNumber : MethodName := ⟨RX10, "takesNumber", "()Z"⟩
abbrev cX10_emits : ByteArray := prog_12_method_18_code
def yX10_emits : MethodName := ⟨RX10, "emits", "(I)V"⟩
abbrev cX10_whole : ByteArray := prog_12_method_19_code
def yX10_whole : MethodName := ⟨RX10, "whole", "()V"⟩
abbrev cX10_settle : ByteArray := prog_12_method_20_code
def yX10_settle : MethodName := ⟨RX10, "settle", "(I)V"⟩
abbrev cX10_place : ByteArray := prog_12_method_21_code
def yX10_place : MethodName := ⟨RX10, "place", "(I)I"⟩
abbrev cX10_takesTest : ByteArray := prog_12_method_22_code
def yX10_takesTest : MethodName := ⟨RX10, "takesTest", "()Z"⟩
abbrev cX10_takesE : ByteArray := prog_12_method_23_code
def yX10_takesE : MethodName := ⟨RX10, "takesE", "(I)Z"⟩
abbrev cX10_takesHead : ByteArray := prog_12_method_24_code
def yX10_takesHead : MethodName := ⟨RX10, "takesHead", "(I)Z"⟩
abbrev cX10_takesClause : ByteArray := prog_12_method_25_code
def yX10_takesClause : MethodName := ⟨RX10, "takesClause", "(I)Z"⟩
abbrev cX10_goesText : ByteArray := prog_12_method_26_code
def yX10_goesText : MethodName := ⟨RX10, "goesText", "(I)Z"⟩
abbrev cX10_bench : ByteArray := prog_12_method_27_code
def yX10_bench : MethodName := ⟨RX10, "bench", "()I"⟩
abbrev cX10_begin : ByteArray := prog_12_method_28_code
def yX10_begin : MethodName := ⟨RX10, "begin", "()I"⟩
abbrev cX10_behind : ByteArray := prog_12_method_29_code
def yX10_behind : MethodName := ⟨RX10, "behind", "()I"⟩
abbrev cX10_pace : ByteArray := prog_12_method_30_code
def yX10_pace : MethodName := ⟨RX10, "pace", "()I"⟩
abbrev cX10_factOf : ByteArray := prog_12_method_31_code
def yX10_factOf : MethodName := ⟨RX10, "factOf", "(III)I"⟩
abbrev cX10_holds : ByteArray := prog_12_method_32_code
def yX10_holds : MethodName := ⟨RX10, "holds", "(III)Z"⟩
abbrev cX10_newsNow : ByteArray := prog_12_method_33_code
def yX10_newsNow : MethodName := ⟨RX10, "newsNow", "(II)I"⟩
abbrev cX10_layNews : ByteArray := prog_12_method_34_code
def yX10_layNews : MethodName := ⟨RX10, "layNews", "()V"⟩
abbrev cX10_newsOf : ByteArray := prog_12_method_35_code
def yX10_newsOf : MethodName := ⟨RX10, "newsOf", "(II)I"⟩
abbrev cX10_news : ByteArray := prog_12_method_36_code
def yX10_news : MethodName := ⟨RX10, "news", "(II)I"⟩
abbrev cX10_holdsOf : ByteArray := prog_12_method_37_code
def yX10_holdsOf : MethodName := ⟨RX10, "holdsOf", "(I)I"⟩
abbrev cX10_minds : ByteArray := prog_12_method_38_code
def yX10_minds : MethodName := ⟨RX10, "minds", "(II)Z"⟩
abbrev cX10_isUp : ByteArray := prog_12_method_39_code
def yX10_isUp : MethodName := ⟨RX10, "isUp", "(I)Z"⟩
abbrev cX10_upMany : ByteArray := prog_12_method_40_code
def yX10_upMany : MethodName := ⟨RX10, "upMany", "()I"⟩
abbrev cX10_left : ByteArray := prog_12_method_41_code
def yX10_left : MethodName := ⟨RX10, "left", "(I)I"⟩
abbrev cX10_allLeft : ByteArray := prog_12_method_42_code
def yX10_allLeft : MethodName := ⟨RX10, "allLeft", "()I"⟩
abbrev cX10_minded : ByteArray := prog_12_method_43_code
def yX10_minded : MethodName := ⟨RX10, "minded", "(I)I"⟩
abbrev cX10_goNight : ByteArray := prog_12_method_44_code
def yX10_goNight : MethodName := ⟨RX10, "goNight", "()V"⟩
abbrev cX10_goEvening : ByteArray := prog_12_method_45_code
def yX10_goEvening : MethodName := ⟨RX10, "goEvening", "(I)I"⟩
abbrev cX10_tell : ByteArray := prog_12_method_46_code
def yX10_tell : MethodName := ⟨RX10, "tell", "(I)I"⟩
abbrev cX10_pass : ByteArray := prog_12_method_47_code
def yX10_pass : MethodName := ⟨RX10, "pass", "(I)I"⟩
abbrev cX10_save : ByteArray := prog_12_method_48_code
def yX10_save : MethodName := ⟨RX10, "save", "()V"⟩
abbrev cX10_putBack : ByteArray := prog_12_method_49_code
def yX10_putBack : MethodName := ⟨RX10, "putBack", "()V"⟩
abbrev cX10_whole_ : ByteArray := prog_12_method_50_code
def yX10_whole_ : MethodName := ⟨RX10, "whole", "(I)I"⟩
abbrev cX10_of : ByteArray := prog_12_method_51_code
def yX10_of : MethodName := ⟨RX10, "of", "(II)I"⟩
abbrev cX10_told : ByteArray := prog_12_method_52_code
def yX10_told : MethodName := ⟨RX10, "told", "(I)I"⟩
abbrev cX10_goEvenings : ByteArray := prog_12_method_53_code
def yX10_goEvenings : MethodName := ⟨RX10, "goEvenings", "(II)V"⟩
abbrev cX10_on : ByteArray := prog_12_method_54_code
def yX10_on : MethodName := ⟨RX10, "on", "(III)I"⟩
abbrev cX10_layTurn : ByteArray := prog_12_method_55_code
def yX10_layTurn : MethodName := ⟨RX10, "layTurn", "(I)Z"⟩
abbrev cX10_goWhole : ByteArray := prog_12_method_56_code
def yX10_goWhole : MethodName := ⟨RX10, "goWhole", "(I)I"⟩
abbrev cX10_goTurn : ByteArray := prog_12_method_57_code
def yX10_goTurn : MethodName := ⟨RX10, "goTurn", "()I"⟩
abbrev cX10_soonest : ByteArray := prog_12_method_58_code
def yX10_soonest : MethodName := ⟨RX10, "soonest", "(I)I"⟩
abbrev cX10_most : ByteArray := prog_12_method_59_code
def yX10_most : MethodName := ⟨RX10, "most", "(II)I"⟩
abbrev cX10_next : ByteArray := prog_12_method_60_code
def yX10_next : MethodName := ⟨RX10, "next", "()I"⟩
abbrev cX10_see : ByteArray := prog_12_method_61_code
def yX10_see : MethodName := ⟨RX10, "see", "(III)I"⟩
abbrev cX10_isSeen : ByteArray := prog_12_method_62_code
def yX10_isSeen : MethodName := ⟨RX10, "isSeen", "(I)Z"⟩
abbrev cX10_since : ByteArray := prog_12_method_63_code
def yX10_since : MethodName := ⟨RX10, "since", "(II)I"⟩
abbrev cX10_can : ByteArray := prog_12_method_64_code
def yX10_can : MethodName := ⟨RX10, "can", "(II)I"⟩
abbrev cX10_divisor : ByteArray := prog_12_method_65_code
def yX10_divisor : MethodName := ⟨RX10, "divisor", "(II)I"⟩
abbrev cX10_lowest : ByteArray := prog_12_method_66_code
def yX10_lowest : MethodName := ⟨RX10, "lowest", "(III)J"⟩
abbrev cX10_odds : ByteArray := prog_12_method_67_code
def yX10_odds : MethodName := ⟨RX10, "odds", "(II)J"⟩
abbrev cX10_mean : ByteArray := prog_12_method_68_code
def yX10_mean : MethodName := ⟨RX10, "mean", "(I)J"⟩
abbrev cX10_month : ByteArray := prog_12_method_69_code
def yX10_month : MethodName := ⟨RX10, "month", "(I)I"⟩
abbrev cX10_ends : ByteArray := prog_12_method_70_code
def yX10_ends : MethodName := ⟨RX10, "ends", "(I)I"⟩
abbrev cX10_book : ByteArray := prog_12_method_71_code
def yX10_book : MethodName := ⟨RX10, "book", "(II)I"⟩
abbrev cX10_looked : ByteArray := prog_12_method_72_code
def yX10_looked : MethodName := ⟨RX10, "looked", "()I"⟩
abbrev cX10_judge : ByteArray := prog_12_method_73_code
def yX10_judge : MethodName := ⟨RX10, "judge", "(II)I"⟩
abbrev cX10_image : ByteArray := prog_12_method_74_code
def yX10_image : MethodName := ⟨RX10, "image", "()I"⟩
abbrev cX10_undo : ByteArray := prog_12_method_75_code
def yX10_undo : MethodName := ⟨RX10, "undo", "()I"⟩
abbrev cX10_body : ByteArray := prog_12_method_76_code
def yX10_body : MethodName := ⟨RX10, "body", "(I)V"⟩
abbrev cX10_clockTicks : ByteArray := prog_12_method_77_code
def yX10_clockTicks : MethodName := ⟨RX10, "clockTicks", "(II)I"⟩
abbrev cX10_ticksAct : ByteArray := prog_12_method_78_code
def yX10_ticksAct : MethodName := ⟨RX10, "ticksAct", "(II)I"⟩
abbrev cX10_clockStrikes : ByteArray := prog_12_method_79_code
def yX10_clockStrikes : MethodName := ⟨RX10, "clockStrikes", "(II)I"⟩
abbrev cX10_fastStrikes : ByteArray := prog_12_method_80_code
def yX10_fastStrikes : MethodName := ⟨RX10, "fastStrikes", "(II)I"⟩
abbrev cX10_strikesAct : ByteArray := prog_12_method_81_code
def yX10_strikesAct : MethodName := ⟨RX10, "strikesAct", "(II)I"⟩
abbrev cX10_clockTells : ByteArray := prog_12_method_82_code
def yX10_clockTells : MethodName := ⟨RX10, "clockTells", "(II)I"⟩
abbrev cX10_tellsAct : ByteArray := prog_12_method_83_code
def yX10_tellsAct : MethodName := ⟨RX10, "tellsAct", "(II)I"⟩
abbrev cX10_act : ByteArray := prog_12_method_84_code
def yX10_act : MethodName := ⟨RX10, "act", "(III)I"⟩
abbrev cX10_trace : ByteArray := prog_12_method_85_code
def yX10_trace : MethodName := ⟨RX10, "trace", "(I)I"⟩
abbrev cX10_taken : ByteArray := prog_12_method_86_code
def yX10_taken : MethodName := ⟨RX10, "taken", "(II)I"⟩
abbrev cX10_count : ByteArray := prog_12_method_87_code
def yX10_count : MethodName := ⟨RX10, "count", "(I)I"⟩
abbrev cX10_isTape : ByteArray := prog_12_method_88_code
def yX10_isTape : MethodName := ⟨RX10, "isTape", "(I)Z"⟩
abbrev cX10_tape : ByteArray := prog_12_method_89_code
def yX10_tape : MethodName := ⟨RX10, "tape", "(III)I"⟩
abbrev cX10_narrow : ByteArray := prog_12_method_90_code
def yX10_narrow : MethodName := ⟨RX10, "narrow", "(IJ)J"⟩
abbrev cX10_item : ByteArray := prog_12_method_91_code
def yX10_item : MethodName := ⟨RX10, "item", "(IIJ)I"⟩
abbrev cX10_read : ByteArray := prog_12_method_92_code
def yX10_read : MethodName := ⟨RX10, "read", "(II)J"⟩
abbrev cX10_shift : ByteArray := prog_12_method_93_code
def yX10_shift : MethodName := ⟨RX10, "shift", "(IIIII)I"⟩
def RJx145de : String := "java/io/Serializable"
def TJx145de : u_T := fun k => match k with
  | _ => ("", "", "", false)
def tyJx145de : Nat → FieldType := fun k => match k with
  | _ => .int
abbrev wsJx145de0 : List Cond := u_ws RJx145de TJx145de 0
theorem nmJx145de : ∀ a, a < 0 → ∀ b, b < 0 → a ≠ b → (TJx145de a).2.1 ≠ (TJx145de b).2.1 := by decide +kernel
theorem tyJx145de_ok : ∀ k, k < 0 → parseFieldDescriptor (TJx145de k).2.2.1 = some (tyJx145de k) := by decide +kernel
def RJx9f9b0 : String := "java/lang/CharSequence"
def TJx9f9b0 : u_T := fun k => match k with
  | _ => ("", "", "", false)
def tyJx9f9b0 : Nat → FieldType := fun k => match k with
  | _ => .int
abbrev wsJx9f9b00 : List Cond := u_ws RJx9f9b0 TJx9f9b0 0
theorem nmJx9f9b0 : ∀ a, a < 0 → ∀ b, b < 0 → a ≠ b → (TJx9f9b0 a).2.1 ≠ (TJx9f9b0 b).2.1 := by decide +kernel
theorem tyJx9f9b0_ok : ∀ k, k < 0 → parseFieldDescriptor (TJx9f9b0 k).2.2.1 = some (tyJx9f9b0 k) := by decide +kernel
def RJ11 : String := "java/lang/Character"
def TJ11 : u_T := fun k => match k with
  | _ => ("", "", "", false)
def tyJ11 : Nat → FieldType := fun k => match k with
  | _ => .int
abbrev wsJ110 : List Cond := u_ws RJ11 TJ11 0
theorem nmJ11 : ∀ a, a < 0 → ∀ b, b < 0 → a ≠ b → (TJ11 a).2.1 ≠ (TJ11 b).2.1 := by decide +kernel
theorem tyJ11_ok : ∀ k, k < 0 → parseFieldDescriptor (TJ11 k).2.2.1 = some (tyJ11 k) := by decide +kernel
abbrev cJ11_isValidCodePoint_9a6ad : ByteArray := prog_13_method_11_code
def yJ11_isValidCodePoint_9a6ad : MethodName := ⟨RJ11, "isValidCodePoint", "(I)Z"⟩
abbrev cJ11_highSurrogate_5068e : ByteArray := prog_13_method_28_code
def yJ11_highSurrogate_5068e : MethodName := ⟨RJ11, "highSurrogate", "(I)C"⟩
abbrev cJ11_lowSurrogate_5068e : ByteArray := prog_13_method_29_code
def yJ11_lowSurrogate_5068e : MethodName := ⟨RJ11, "lowSurrogate", "(I)C"⟩
def RJxb160c : String := "java/lang/Comparable"
def TJxb160c : u_T := fun k => match k with
  | _ => ("", "", "", false)
def tyJxb160c : Nat → FieldType := fun k => match k with
  | _ => .int
abbrev wsJxb160c0 : List Cond := u_ws RJxb160c TJxb160c 0
theorem nmJxb160c : ∀ a, a < 0 → ∀ b, b < 0 → a ≠ b → (TJxb160c a).2.1 ≠ (TJxb160c b).2.1 := by decide +kernel
theorem tyJxb160c_ok : ∀ k, k < 0 → parseFieldDescriptor (TJxb160c k).2.2.1 = some (tyJxb160c k) := by decide +kernel
def RJ9 : String := "java/lang/Math"
def TJ9 : u_T := fun k => match k with
  | _ => ("", "", "", false)
def tyJ9 : Nat → FieldType := fun k => match k with
  | _ => .int
abbrev wsJ90 : List Cond := u_ws RJ9 TJ9 0
theorem nmJ9 : ∀ a, a < 0 → ∀ b, b < 0 → a ≠ b → (TJ9 a).2.1 ≠ (TJ9 b).2.1 := by decide +kernel
theorem tyJ9_ok : ∀ k, k < 0 → parseFieldDescriptor (TJ9 k).2.2.1 = some (tyJ9 k) := by decide +kernel
abbrev cJ9_max_7cf53 : ByteArray := prog_14_method_65_code
def yJ9_max_7cf53 : MethodName := ⟨RJ9, "max", "(II)I"⟩
abbrev cJ9_min_7cf53 : ByteArray := prog_14_method_69_code
def yJ9_min_7cf53 : MethodName := ⟨RJ9, "min", "(II)I"⟩
def RJ0 : String := "java/lang/String"
def TJ0 : u_T := fun k => match k with
  | _ => ("", "", "", false)
def tyJ0 : Nat → FieldType := fun k => match k with
  | _ => .int
abbrev wsJ00 : List Cond := u_ws RJ0 TJ0 0
theorem nmJ0 : ∀ a, a < 0 → ∀ b, b < 0 → a ≠ b → (TJ0 a).2.1 ≠ (TJ0 b).2.1 := by decide +kernel
theorem tyJ0_ok : ∀ k, k < 0 → parseFieldDescriptor (TJ0 k).2.2.1 = some (tyJ0 k) := by decide +kernel
abbrev cJ0_length_8abf5 : ByteArray := prog_15_method_54_code
def yJ0_length_8abf5 : MethodName := ⟨RJ0, "length", "()I"⟩
abbrev cJ0_charAt_5068e : ByteArray := prog_15_method_56_code
def yJ0_charAt_5068e : MethodName := ⟨RJ0, "charAt", "(I)C"⟩
abbrev cJ0_indexOf_0f7a4 : ByteArray := prog_15_method_79_code
def yJ0_indexOf_0f7a4 : MethodName := ⟨RJ0, "indexOf", "(I)I"⟩
abbrev cJ0_indexOf_7cf53 : ByteArray := prog_15_method_80_code
def yJ0_indexOf_7cf53 : MethodName := ⟨RJ0, "indexOf", "(II)I"⟩
abbrev cJ0_coder_7d493 : ByteArray := prog_15_method_152_code
def yJ0_coder_7d493 : MethodName := ⟨RJ0, "coder", "()B"⟩
abbrev cJ0_isLatin1_aae02 : ByteArray := prog_15_method_154_code
def yJ0_isLatin1_aae02 : MethodName := ⟨RJ0, "isLatin1", "()Z"⟩
abbrev cJ0_checkIndex_df160 : ByteArray := prog_15_method_155_code
def yJ0_checkIndex_df160 : MethodName := ⟨RJ0, "checkIndex", "(II)V"⟩
abbrev cJ0_checkBoundsBeginEnd_23922 : ByteArray := prog_15_method_158_code
def yJ0_checkBoundsBeginEnd_23922 : MethodName := ⟨RJ0, "checkBoundsBeginEnd", "(III)V"⟩
def RJ1 : String := "java/lang/StringLatin1"
def TJ1 : u_T := fun k => match k with
  | _ => ("", "", "", false)
def tyJ1 : Nat → FieldType := fun k => match k with
  | _ => .int
abbrev wsJ10 : List Cond := u_ws RJ1 TJ1 0
theorem nmJ1 : ∀ a, a < 0 → ∀ b, b < 0 → a ≠ b → (TJ1 a).2.1 ≠ (TJ1 b).2.1 := by decide +kernel
theorem tyJ1_ok : ∀ k, k < 0 → parseFieldDescriptor (TJ1 k).2.2.1 = some (tyJ1 k) := by decide +kernel
abbrev cJ1_charAt_3b067 : ByteArray := prog_16_method_2_code
def yJ1_charAt_3b067 : MethodName := ⟨RJ1, "charAt", "([BI)C"⟩
abbrev cJ1_canEncode_9a6ad : ByteArray := prog_16_method_4_code
def yJ1_canEncode_9a6ad : MethodName := ⟨RJ1, "canEncode", "(I)Z"⟩
abbrev cJ1_indexOf_4cfef : ByteArray := prog_16_method_22_code
def yJ1_indexOf_4cfef : MethodName := ⟨RJ1, "indexOf", "([BIII)I"⟩
abbrev cJ1_indexOfChar_4cfef : ByteArray := prog_16_method_23_code
def yJ1_indexOfChar_4cfef : MethodName := ⟨RJ1, "indexOfChar", "([BIII)I"⟩
def RJ2 : String := "java/lang/StringUTF16"
def TJ2 : u_T := fun k => match k with
  | _ => ("", "", "", false)
def tyJ2 : Nat → FieldType := fun k => match k with
  | _ => .int
abbrev wsJ20 : List Cond := u_ws RJ2 TJ2 0
theorem nmJ2 : ∀ a, a < 0 → ∀ b, b < 0 → a ≠ b → (TJ2 a).2.1 ≠ (TJ2 b).2.1 := by decide +kernel
theorem tyJ2_ok : ∀ k, k < 0 → parseFieldDescriptor (TJ2 k).2.2.1 = some (tyJ2 k) := by decide +kernel
abbrev cJ2_getChar_3b067 : ByteArray := prog_17_method_5_code
def yJ2_getChar_3b067 : MethodName := ⟨RJ2, "getChar", "([BI)C"⟩
abbrev cJ2_length_9d52b : ByteArray := prog_17_method_6_code
def yJ2_length_9d52b : MethodName := ⟨RJ2, "length", "([B)I"⟩
abbrev cJ2_indexOf_4cfef : ByteArray := prog_17_method_40_code
def yJ2_indexOf_4cfef : MethodName := ⟨RJ2, "indexOf", "([BIII)I"⟩
abbrev cJ2_indexOfChar_4cfef : ByteArray := prog_17_method_47_code
def yJ2_indexOfChar_4cfef : MethodName := ⟨RJ2, "indexOfChar", "([BIII)I"⟩
abbrev cJ2_indexOfCharUnsafe_4cfef : ByteArray := prog_17_method_48_code
def yJ2_indexOfCharUnsafe_4cfef : MethodName := ⟨RJ2, "indexOfCharUnsafe", "([BIII)I"⟩
abbrev cJ2_indexOfSupplementary_4cfef : ByteArray := prog_17_method_49_code
def yJ2_indexOfSupplementary_4cfef : MethodName := ⟨RJ2, "indexOfSupplementary", "([BIII)I"⟩
abbrev cJ2_charAt_3b067 : ByteArray := prog_17_method_83_code
def yJ2_charAt_3b067 : MethodName := ⟨RJ2, "charAt", "([BI)C"⟩
abbrev cJ2_checkIndex_2214a : ByteArray := prog_17_method_91_code
def yJ2_checkIndex_2214a : MethodName := ⟨RJ2, "checkIndex", "(I[B)V"⟩
abbrev cJ2_checkBoundsBeginEnd_d044e : ByteArray := prog_17_method_93_code
def yJ2_checkBoundsBeginEnd_d044e : MethodName := ⟨RJ2, "checkBoundsBeginEnd", "(II[B)V"⟩
def RJ10 : String := "java/lang/System"
def TJ10 : u_T := fun k => match k with
  | _ => ("", "", "", false)
def tyJ10 : Nat → FieldType := fun k => match k with
  | _ => .int
abbrev wsJ100 : List Cond := u_ws RJ10 TJ10 0
theorem nmJ10 : ∀ a, a < 0 → ∀ b, b < 0 → a ≠ b → (TJ10 a).2.1 ≠ (TJ10 b).2.1 := by decide +kernel
theorem tyJ10_ok : ∀ k, k < 0 → parseFieldDescriptor (TJ10 k).2.2.1 = some (tyJ10 k) := by decide +kernel
def RJxfd54e : String := "java/lang/constant/Constable"
def TJxfd54e : u_T := fun k => match k with
  | _ => ("", "", "", false)
def tyJxfd54e : Nat → FieldType := fun k => match k with
  | _ => .int
abbrev wsJxfd54e0 : List Cond := u_ws RJxfd54e TJxfd54e 0
theorem nmJxfd54e : ∀ a, a < 0 → ∀ b, b < 0 → a ≠ b → (TJxfd54e a).2.1 ≠ (TJxfd54e b).2.1 := by decide +kernel
theorem tyJxfd54e_ok : ∀ k, k < 0 → parseFieldDescriptor (TJxfd54e k).2.2.1 = some (tyJxfd54e k) := by decide +kernel
def RJx3cf43 : String := "java/lang/constant/ConstantDesc"
def TJx3cf43 : u_T := fun k => match k with
  | _ => ("", "", "", false)
def tyJx3cf43 : Nat → FieldType := fun k => match k with
  | _ => .int
abbrev wsJx3cf430 : List Cond := u_ws RJx3cf43 TJx3cf43 0
theorem nmJx3cf43 : ∀ a, a < 0 → ∀ b, b < 0 → a ≠ b → (TJx3cf43 a).2.1 ≠ (TJx3cf43 b).2.1 := by decide +kernel
theorem tyJx3cf43_ok : ∀ k, k < 0 → parseFieldDescriptor (TJx3cf43 k).2.2.1 = some (tyJx3cf43 k) := by decide +kernel
def RJ7 : String := "java/util/Arrays"
def TJ7 : u_T := fun k => match k with
  | _ => ("", "", "", false)
def tyJ7 : Nat → FieldType := fun k => match k with
  | _ => .int
abbrev wsJ70 : List Cond := u_ws RJ7 TJ7 0
theorem nmJ7 : ∀ a, a < 0 → ∀ b, b < 0 → a ≠ b → (TJ7 a).2.1 ≠ (TJ7 b).2.1 := by decide +kernel
theorem tyJ7_ok : ∀ k, k < 0 → parseFieldDescriptor (TJ7 k).2.2.1 = some (tyJ7 k) := by decide +kernel
abbrev cJ7_fill_d0a16 : ByteArray := prog_19_method_101_code
def yJ7_fill_d0a16 : MethodName := ⟨RJ7, "fill", "([JJ)V"⟩
def RJ3 : String := "jdk/internal/util/Preconditions"
def TJ3 : u_T := fun k => match k with
  | _ => ("", "", "", false)
def tyJ3 : Nat → FieldType := fun k => match k with
  | _ => .int
abbrev wsJ30 : List Cond := u_ws RJ3 TJ3 0
theorem nmJ3 : ∀ a, a < 0 → ∀ b, b < 0 → a ≠ b → (TJ3 a).2.1 ≠ (TJ3 b).2.1 := by decide +kernel
theorem tyJ3_ok : ∀ k, k < 0 → parseFieldDescriptor (TJ3 k).2.2.1 = some (tyJ3 k) := by decide +kernel
abbrev cJ3_checkIndex_8e157 : ByteArray := prog_20_method_11_code
def yJ3_checkIndex_8e157 : MethodName := ⟨RJ3, "checkIndex", "(IILjava/util/function/BiFunction;)I"⟩
abbrev cJ3_checkFromToIndex_8c36e : ByteArray := prog_20_method_12_code
def yJ3_checkFromToIndex_8c36e : MethodName := ⟨RJ3, "checkFromToIndex", "(IIILjava/util/function/BiFunction;)I"⟩
def RL : String := "ClocksToldLaw"
abbrev cL_law : ByteArray := code
def yL_law : MethodName := ⟨RL, "law", "([I)Z"⟩
abbrev vwCl : List vw_C := [(RX0, TX0, 5), (RX1, TX1, 4), (RX2, TX2, 6), (RX3, TX3, 3), (RX4, TX4, 5), (RX5, TX5, 6), (RX6, TX6, 3), (RX7, TX7, 11), (RX8, TX8, 3), (RX9, TX9, 10), (RX10, TX10, 66)]
end
section
theorem dX0_init_0 : decode cX0_init 0 = .ok (.aload_n 0, 1) := by decide +kernel
theorem dX0_init_1 : decode cX0_init 1 = .ok (.invokespecial 3, 3) := by decide +kernel
theorem dX0_init_4 : decode cX0_init 4 = .ok (.aload_n 0, 1) := by decide +kernel
theorem dX0_init_5 : decode cX0_init 5 = .ok (.bipush 20, 2) := by decide +kernel
theorem dX0_init_7 : decode cX0_init 7 = .ok (.newarray .int, 2) := by decide +kernel
theorem dX0_init_9 : decode cX0_init 9 = .ok (.putfield 11, 3) := by decide +kernel
theorem dX0_init_12 : decode cX0_init 12 = .ok (.aload_n 0, 1) := by decide +kernel
theorem dX0_init_13 : decode cX0_init 13 = .ok (.iconst 0, 1) := by decide +kernel
theorem dX0_init_14 : decode cX0_init 14 = .ok (.putfield 15, 3) := by decide +kernel
theorem dX0_init_17 : decode cX0_init 17 = .ok (.aload_n 0, 1) := by decide +kernel
theorem dX0_init_18 : decode cX0_init 18 = .ok (.iconst 0, 1) := by decide +kernel
theorem dX0_init_19 : decode cX0_init 19 = .ok (.putfield 19, 3) := by decide +kernel
theorem dX0_init_22 : decode cX0_init 22 = .ok (.aload_n 0, 1) := by decide +kernel
theorem dX0_init_23 : decode cX0_init 23 = .ok (.iconst 0, 1) := by decide +kernel
theorem dX0_init_24 : decode cX0_init 24 = .ok (.putfield 22, 3) := by decide +kernel
theorem dX0_init_27 : decode cX0_init 27 = .ok (.aload_n 0, 1) := by decide +kernel
theorem dX0_init_28 : decode cX0_init 28 = .ok (.iconst 0, 1) := by decide +kernel
theorem dX0_init_29 : decode cX0_init 29 = .ok (.putfield 25, 3) := by decide +kernel
theorem dX0_init_32 : decode cX0_init 32 = .ok (.return_, 1) := by decide +kernel
theorem dX0_start_0 : decode cX0_start 0 = .ok (.aload_n 0, 1) := by decide +kernel
theorem dX0_start_1 : decode cX0_start 1 = .ok (.iload_n 1, 1) := by decide +kernel
theorem dX0_start_2 : decode cX0_start 2 = .ok (.putfield 19, 3) := by decide +kernel
theorem dX0_start_5 : decode cX0_start 5 = .ok (.aload_n 0, 1) := by decide +kernel
theorem dX0_start_6 : decode cX0_start 6 = .ok (.iload_n 2, 1) := by decide +kernel
theorem dX0_start_7 : decode cX0_start 7 = .ok (.putfield 22, 3) := by decide +kernel
theorem dX0_start_10 : decode cX0_start 10 = .ok (.aload_n 0, 1) := by decide +kernel
theorem dX0_start_11 : decode cX0_start 11 = .ok (.iload_n 3, 1) := by decide +kernel
theorem dX0_start_12 : decode cX0_start 12 = .ok (.putfield 25, 3) := by decide +kernel
theorem dX0_start_15 : decode cX0_start 15 = .ok (.aload_n 0, 1) := by decide +kernel
theorem dX0_start_16 : decode cX0_start 16 = .ok (.iload_n 2, 1) := by decide +kernel
theorem dX0_start_17 : decode cX0_start 17 = .ok (.iload 4, 2) := by decide +kernel
theorem dX0_start_19 : decode cX0_start 19 = .ok (.iload 5, 2) := by decide +kernel
theorem dX0_start_21 : decode cX0_start 21 = .ok (.iconst 0, 1) := by decide +kernel
theorem dX0_start_22 : decode cX0_start 22 = .ok (.invokevirtual 28, 3) := by decide +kernel
theorem dX0_start_25 : decode cX0_start 25 = .ok (.ireturn, 1) := by decide +kernel
theorem dX0_run_0 : decode cX0_run 0 = .ok (.iload_n 1, 1) := by decide +kernel
theorem dX0_run_1 : decode cX0_run 1 = .ok (.iload_n 2, 1) := by decide +kernel
theorem dX0_run_2 : decode cX0_run 2 = .ok (.invokestatic 32, 3) := by decide +kernel
theorem dX0_run_5 : decode cX0_run 5 = .ok (.istore 5, 2) := by decide +kernel
theorem dX0_run_7 : decode cX0_run 7 = .ok (.iload 5, 2) := by decide +kernel
theorem dX0_run_9 : decode cX0_run 9 = .ok (.ifCond .eq 10, 3) := by decide +kernel
theorem dX0_run_12 : decode cX0_run 12 = .ok (.iload 4, 2) := by decide +kernel
theorem dX0_run_14 : decode cX0_run 14 = .ok (.bipush 40, 2) := by decide +kernel
theorem dX0_run_16 : decode cX0_run 16 = .ok (.if_icmp .lt 5, 3) := by decide +kernel
theorem dX0_run_19 : decode cX0_run 19 = .ok (.iconst 0, 1) := by decide +kernel
theorem dX0_run_20 : decode cX0_run 20 = .ok (.ireturn, 1) := by decide +kernel
theorem dX0_run_21 : decode cX0_run 21 = .ok (.aload_n 0, 1) := by decide +kernel
theorem dX0_run_22 : decode cX0_run 22 = .ok (.iload 5, 2) := by decide +kernel
theorem dX0_run_24 : decode cX0_run 24 = .ok (.invokevirtual 36, 3) := by decide +kernel
theorem dX0_run_27 : decode cX0_run 27 = .ok (.getstatic 40, 3) := by decide +kernel
theorem dX0_run_30 : decode cX0_run 30 = .ok (.iload 5, 2) := by decide +kernel
theorem dX0_run_32 : decode cX0_run 32 = .ok (.bipush 10, 2) := by decide +kernel
theorem dX0_run_34 : decode cX0_run 34 = .ok (.idiv, 1) := by decide +kernel
theorem dX0_run_35 : decode cX0_run 35 = .ok (.iconst 1, 1) := by decide +kernel
theorem dX0_run_36 : decode cX0_run 36 = .ok (.isub, 1) := by decide +kernel
theorem dX0_run_37 : decode cX0_run 37 = .ok (.iaload, 1) := by decide +kernel
theorem dX0_run_38 : decode cX0_run 38 = .ok (.istore 6, 2) := by decide +kernel
theorem dX0_run_40 : decode cX0_run 40 = .ok (.iload 4, 2) := by decide +kernel
theorem dX0_run_42 : decode cX0_run 42 = .ok (.iconst 1, 1) := by decide +kernel
theorem dX0_run_43 : decode cX0_run 43 = .ok (.iadd, 1) := by decide +kernel
theorem dX0_run_44 : decode cX0_run 44 = .ok (.istore 7, 2) := by decide +kernel
theorem dX0_run_46 : decode cX0_run 46 = .ok (.iload 5, 2) := by decide +kernel
theorem dX0_run_48 : decode cX0_run 48 = .ok (.lookupswitch 270 #[(10, 100), (11, 107), (12, 125), (20, 140), (30, 154), (40, 167), (50, 191), (51, 203), (60, 216), (70, 232), (71, 254)], 100) := by decide +kernel
theorem dX0_run_148 : decode cX0_run 148 = .ok (.iload_n 3, 1) := by decide +kernel
theorem dX0_run_149 : decode cX0_run 149 = .ok (.aload_n 0, 1) := by decide +kernel
theorem dX0_run_150 : decode cX0_run 150 = .ok (.getfield 19, 3) := by decide +kernel
theorem dX0_run_153 : decode cX0_run 153 = .ok (.iadd, 1) := by decide +kernel
theorem dX0_run_154 : decode cX0_run 154 = .ok (.ireturn, 1) := by decide +kernel
theorem dX0_run_155 : decode cX0_run 155 = .ok (.aload_n 0, 1) := by decide +kernel
theorem dX0_run_156 : decode cX0_run 156 = .ok (.aload_n 0, 1) := by decide +kernel
theorem dX0_run_157 : decode cX0_run 157 = .ok (.getfield 22, 3) := by decide +kernel
theorem dX0_run_160 : decode cX0_run 160 = .ok (.iconst 0, 1) := by decide +kernel
theorem dX0_run_161 : decode cX0_run 161 = .ok (.iload_n 3, 1) := by decide +kernel
theorem dX0_run_162 : decode cX0_run 162 = .ok (.iload 7, 2) := by decide +kernel
theorem dX0_run_164 : decode cX0_run 164 = .ok (.invokevirtual 28, 3) := by decide +kernel
theorem dX0_run_167 : decode cX0_run 167 = .ok (.aload_n 0, 1) := by decide +kernel
theorem dX0_run_168 : decode cX0_run 168 = .ok (.getfield 25, 3) := by decide +kernel
theorem dX0_run_171 : decode cX0_run 171 = .ok (.isub, 1) := by decide +kernel
theorem dX0_run_172 : decode cX0_run 172 = .ok (.ireturn, 1) := by decide +kernel
theorem dX0_run_173 : decode cX0_run 173 = .ok (.aload_n 0, 1) := by decide +kernel
theorem dX0_run_174 : decode cX0_run 174 = .ok (.aload_n 0, 1) := by decide +kernel
theorem dX0_run_175 : decode cX0_run 175 = .ok (.getfield 22, 3) := by decide +kernel
theorem dX0_run_178 : decode cX0_run 178 = .ok (.iconst 1, 1) := by decide +kernel
theorem dX0_run_179 : decode cX0_run 179 = .ok (.iload_n 3, 1) := by decide +kernel
theorem dX0_run_180 : decode cX0_run 180 = .ok (.iload 7, 2) := by decide +kernel
theorem dX0_run_182 : decode cX0_run 182 = .ok (.invokevirtual 28, 3) := by decide +kernel
theorem dX0_run_185 : decode cX0_run 185 = .ok (.iconst 2, 1) := by decide +kernel
theorem dX0_run_186 : decode cX0_run 186 = .ok (.imul, 1) := by decide +kernel
theorem dX0_run_187 : decode cX0_run 187 = .ok (.ireturn, 1) := by decide +kernel
theorem dX0_run_188 : decode cX0_run 188 = .ok (.aload_n 0, 1) := by decide +kernel
theorem dX0_run_189 : decode cX0_run 189 = .ok (.iload 6, 2) := by decide +kernel
theorem dX0_run_191 : decode cX0_run 191 = .ok (.iconst 1, 1) := by decide +kernel
theorem dX0_run_192 : decode cX0_run 192 = .ok (.iload_n 3, 1) := by decide +kernel
theorem dX0_run_193 : decode cX0_run 193 = .ok (.iload 7, 2) := by decide +kernel
theorem dX0_run_195 : decode cX0_run 195 = .ok (.invokevirtual 28, 3) := by decide +kernel
theorem dX0_run_198 : decode cX0_run 198 = .ok (.bipush 6, 2) := by decide +kernel
theorem dX0_run_200 : decode cX0_run 200 = .ok (.ixor, 1) := by decide +kernel
theorem dX0_run_201 : decode cX0_run 201 = .ok (.ireturn, 1) := by decide +kernel
theorem dX0_run_202 : decode cX0_run 202 = .ok (.aload_n 0, 1) := by decide +kernel
theorem dX0_run_203 : decode cX0_run 203 = .ok (.iload 6, 2) := by decide +kernel
theorem dX0_run_205 : decode cX0_run 205 = .ok (.iconst 0, 1) := by decide +kernel
theorem dX0_run_206 : decode cX0_run 206 = .ok (.iload_n 3, 1) := by decide +kernel
theorem dX0_run_207 : decode cX0_run 207 = .ok (.iconst 3, 1) := by decide +kernel
theorem dX0_run_208 : decode cX0_run 208 = .ok (.imul, 1) := by decide +kernel
theorem dX0_run_209 : decode cX0_run 209 = .ok (.iload 7, 2) := by decide +kernel
theorem dX0_run_211 : decode cX0_run 211 = .ok (.invokevirtual 28, 3) := by decide +kernel
theorem dX0_run_214 : decode cX0_run 214 = .ok (.ireturn, 1) := by decide +kernel
theorem dX0_run_215 : decode cX0_run 215 = .ok (.aload_n 0, 1) := by decide +kernel
theorem dX0_run_216 : decode cX0_run 216 = .ok (.iload 6, 2) := by decide +kernel
theorem dX0_run_218 : decode cX0_run 218 = .ok (.iconst 2, 1) := by decide +kernel
theorem dX0_run_219 : decode cX0_run 219 = .ok (.iload_n 3, 1) := by decide +kernel
theorem dX0_run_220 : decode cX0_run 220 = .ok (.iload 7, 2) := by decide +kernel
theorem dX0_run_222 : decode cX0_run 222 = .ok (.invokevirtual 28, 3) := by decide +kernel
theorem dX0_run_225 : decode cX0_run 225 = .ok (.aload_n 0, 1) := by decide +kernel
theorem dX0_run_226 : decode cX0_run 226 = .ok (.aload_n 0, 1) := by decide +kernel
theorem dX0_run_227 : decode cX0_run 227 = .ok (.getfield 22, 3) := by decide +kernel
theorem dX0_run_230 : decode cX0_run 230 = .ok (.iconst 1, 1) := by decide +kernel
theorem dX0_run_231 : decode cX0_run 231 = .ok (.iconst 1, 1) := by decide +kernel
theorem dX0_run_232 : decode cX0_run 232 = .ok (.iload 7, 2) := by decide +kernel
theorem dX0_run_234 : decode cX0_run 234 = .ok (.invokevirtual 28, 3) := by decide +kernel
theorem dX0_run_237 : decode cX0_run 237 = .ok (.iadd, 1) := by decide +kernel
theorem dX0_run_238 : decode cX0_run 238 = .ok (.ireturn, 1) := by decide +kernel
theorem dX0_run_239 : decode cX0_run 239 = .ok (.aload_n 0, 1) := by decide +kernel
theorem dX0_run_240 : decode cX0_run 240 = .ok (.iload 6, 2) := by decide +kernel
theorem dX0_run_242 : decode cX0_run 242 = .ok (.iconst 0, 1) := by decide +kernel
theorem dX0_run_243 : decode cX0_run 243 = .ok (.iload_n 3, 1) := by decide +kernel
theorem dX0_run_244 : decode cX0_run 244 = .ok (.iload 7, 2) := by decide +kernel
theorem dX0_run_246 : decode cX0_run 246 = .ok (.invokevirtual 28, 3) := by decide +kernel
theorem dX0_run_249 : decode cX0_run 249 = .ok (.ineg, 1) := by decide +kernel
theorem dX0_run_250 : decode cX0_run 250 = .ok (.ireturn, 1) := by decide +kernel
theorem dX0_run_251 : decode cX0_run 251 = .ok (.aload_n 0, 1) := by decide +kernel
theorem dX0_run_252 : decode cX0_run 252 = .ok (.iload 6, 2) := by decide +kernel
theorem dX0_run_254 : decode cX0_run 254 = .ok (.iconst 1, 1) := by decide +kernel
theorem dX0_run_255 : decode cX0_run 255 = .ok (.iload_n 3, 1) := by decide +kernel
theorem dX0_run_256 : decode cX0_run 256 = .ok (.iconst 1, 1) := by decide +kernel
theorem dX0_run_257 : decode cX0_run 257 = .ok (.iadd, 1) := by decide +kernel
theorem dX0_run_258 : decode cX0_run 258 = .ok (.iload 7, 2) := by decide +kernel
theorem dX0_run_260 : decode cX0_run 260 = .ok (.invokevirtual 28, 3) := by decide +kernel
theorem dX0_run_263 : decode cX0_run 263 = .ok (.ireturn, 1) := by decide +kernel
theorem dX0_run_264 : decode cX0_run 264 = .ok (.aload_n 0, 1) := by decide +kernel
theorem dX0_run_265 : decode cX0_run 265 = .ok (.iload 6, 2) := by decide +kernel
theorem dX0_run_267 : decode cX0_run 267 = .ok (.iconst 2, 1) := by decide +kernel
theorem dX0_run_268 : decode cX0_run 268 = .ok (.iload_n 3, 1) := by decide +kernel
theorem dX0_run_269 : decode cX0_run 269 = .ok (.aload_n 0, 1) := by decide +kernel
theorem dX0_run_270 : decode cX0_run 270 = .ok (.getfield 19, 3) := by decide +kernel
theorem dX0_run_273 : decode cX0_run 273 = .ok (.isub, 1) := by decide +kernel
theorem dX0_run_274 : decode cX0_run 274 = .ok (.iload 7, 2) := by decide +kernel
theorem dX0_run_276 : decode cX0_run 276 = .ok (.invokevirtual 28, 3) := by decide +kernel
theorem dX0_run_279 : decode cX0_run 279 = .ok (.ireturn, 1) := by decide +kernel
theorem dX0_run_280 : decode cX0_run 280 = .ok (.aload_n 0, 1) := by decide +kernel
theorem dX0_run_281 : decode cX0_run 281 = .ok (.iload 6, 2) := by decide +kernel
theorem dX0_run_283 : decode cX0_run 283 = .ok (.iconst 1, 1) := by decide +kernel
theorem dX0_run_284 : decode cX0_run 284 = .ok (.iload_n 3, 1) := by decide +kernel
theorem dX0_run_285 : decode cX0_run 285 = .ok (.iload 7, 2) := by decide +kernel
theorem dX0_run_287 : decode cX0_run 287 = .ok (.invokevirtual 28, 3) := by decide +kernel
theorem dX0_run_290 : decode cX0_run 290 = .ok (.aload_n 0, 1) := by decide +kernel
theorem dX0_run_291 : decode cX0_run 291 = .ok (.iload 6, 2) := by decide +kernel
theorem dX0_run_293 : decode cX0_run 293 = .ok (.iconst 0, 1) := by decide +kernel
theorem dX0_run_294 : decode cX0_run 294 = .ok (.iconst 2, 1) := by decide +kernel
theorem dX0_run_295 : decode cX0_run 295 = .ok (.iload 7, 2) := by decide +kernel
theorem dX0_run_297 : decode cX0_run 297 = .ok (.invokevirtual 28, 3) := by decide +kernel
theorem dX0_run_300 : decode cX0_run 300 = .ok (.iadd, 1) := by decide +kernel
theorem dX0_run_301 : decode cX0_run 301 = .ok (.ireturn, 1) := by decide +kernel
theorem dX0_run_302 : decode cX0_run 302 = .ok (.aload_n 0, 1) := by decide +kernel
theorem dX0_run_303 : decode cX0_run 303 = .ok (.iload 6, 2) := by decide +kernel
theorem dX0_run_305 : decode cX0_run 305 = .ok (.iconst 0, 1) := by decide +kernel
theorem dX0_run_306 : decode cX0_run 306 = .ok (.iload_n 3, 1) := by decide +kernel
theorem dX0_run_307 : decode cX0_run 307 = .ok (.iload 7, 2) := by decide +kernel
theorem dX0_run_309 : decode cX0_run 309 = .ok (.invokevirtual 28, 3) := by decide +kernel
theorem dX0_run_312 : decode cX0_run 312 = .ok (.aload_n 0, 1) := by decide +kernel
theorem dX0_run_313 : decode cX0_run 313 = .ok (.getfield 25, 3) := by decide +kernel
theorem dX0_run_316 : decode cX0_run 316 = .ok (.ixor, 1) := by decide +kernel
theorem dX0_run_317 : decode cX0_run 317 = .ok (.ireturn, 1) := by decide +kernel
theorem dX0_run_318 : decode cX0_run 318 = .ok (.iconst 0, 1) := by decide +kernel
theorem dX0_run_319 : decode cX0_run 319 = .ok (.ireturn, 1) := by decide +kernel
theorem dX0_bodyFrom_0 : decode cX0_bodyFrom 0 = .ok (.iload_n 0, 1) := by decide +kernel
theorem dX0_bodyFrom_1 : decode cX0_bodyFrom 1 = .ok (.istore_n 2, 1) := by decide +kernel
theorem dX0_bodyFrom_2 : decode cX0_bodyFrom 2 = .ok (.iconst 0, 1) := by decide +kernel
theorem dX0_bodyFrom_3 : decode cX0_bodyFrom 3 = .ok (.istore_n 3, 1) := by decide +kernel
theorem dX0_bodyFrom_4 : decode cX0_bodyFrom 4 = .ok (.iload_n 3, 1) := by decide +kernel
theorem dX0_bodyFrom_5 : decode cX0_bodyFrom 5 = .ok (.bipush 7, 2) := by decide +kernel
theorem dX0_bodyFrom_7 : decode cX0_bodyFrom 7 = .ok (.if_icmp .ge 38, 3) := by decide +kernel
theorem dX0_bodyFrom_10 : decode cX0_bodyFrom 10 = .ok (.iload_n 2, 1) := by decide +kernel
theorem dX0_bodyFrom_11 : decode cX0_bodyFrom 11 = .ok (.ifCond .lt 34, 3) := by decide +kernel
theorem dX0_bodyFrom_14 : decode cX0_bodyFrom 14 = .ok (.getstatic 43, 3) := by decide +kernel
theorem dX0_bodyFrom_17 : decode cX0_bodyFrom 17 = .ok (.iload_n 2, 1) := by decide +kernel
theorem dX0_bodyFrom_18 : decode cX0_bodyFrom 18 = .ok (.iconst 3, 1) := by decide +kernel
theorem dX0_bodyFrom_19 : decode cX0_bodyFrom 19 = .ok (.imul, 1) := by decide +kernel
theorem dX0_bodyFrom_20 : decode cX0_bodyFrom 20 = .ok (.iload_n 1, 1) := by decide +kernel
theorem dX0_bodyFrom_21 : decode cX0_bodyFrom 21 = .ok (.iadd, 1) := by decide +kernel
theorem dX0_bodyFrom_22 : decode cX0_bodyFrom 22 = .ok (.iaload, 1) := by decide +kernel
theorem dX0_bodyFrom_23 : decode cX0_bodyFrom 23 = .ok (.istore 4, 2) := by decide +kernel
theorem dX0_bodyFrom_25 : decode cX0_bodyFrom 25 = .ok (.iload 4, 2) := by decide +kernel
theorem dX0_bodyFrom_27 : decode cX0_bodyFrom 27 = .ok (.ifCond .eq 6, 3) := by decide +kernel
theorem dX0_bodyFrom_30 : decode cX0_bodyFrom 30 = .ok (.iload 4, 2) := by decide +kernel
theorem dX0_bodyFrom_32 : decode cX0_bodyFrom 32 = .ok (.ireturn, 1) := by decide +kernel
theorem dX0_bodyFrom_33 : decode cX0_bodyFrom 33 = .ok (.getstatic 40, 3) := by decide +kernel
theorem dX0_bodyFrom_36 : decode cX0_bodyFrom 36 = .ok (.iload_n 2, 1) := by decide +kernel
theorem dX0_bodyFrom_37 : decode cX0_bodyFrom 37 = .ok (.iaload, 1) := by decide +kernel
theorem dX0_bodyFrom_38 : decode cX0_bodyFrom 38 = .ok (.istore_n 2, 1) := by decide +kernel
theorem dX0_bodyFrom_39 : decode cX0_bodyFrom 39 = .ok (.iinc 3 1, 3) := by decide +kernel
theorem dX0_bodyFrom_42 : decode cX0_bodyFrom 42 = .ok (.goto (-38), 3) := by decide +kernel
theorem dX0_bodyFrom_45 : decode cX0_bodyFrom 45 = .ok (.iconst 0, 1) := by decide +kernel
theorem dX0_bodyFrom_46 : decode cX0_bodyFrom 46 = .ok (.ireturn, 1) := by decide +kernel
theorem dX0_note_0 : decode cX0_note 0 = .ok (.aload_n 0, 1) := by decide +kernel
theorem dX0_note_1 : decode cX0_note 1 = .ok (.getfield 15, 3) := by decide +kernel
theorem dX0_note_4 : decode cX0_note 4 = .ok (.bipush 20, 2) := by decide +kernel
theorem dX0_note_6 : decode cX0_note 6 = .ok (.if_icmp .ge 13, 3) := by decide +kernel
theorem dX0_note_9 : decode cX0_note 9 = .ok (.aload_n 0, 1) := by decide +kernel
theorem dX0_note_10 : decode cX0_note 10 = .ok (.getfield 11, 3) := by decide +kernel
theorem dX0_note_13 : decode cX0_note 13 = .ok (.aload_n 0, 1) := by decide +kernel
theorem dX0_note_14 : decode cX0_note 14 = .ok (.getfield 15, 3) := by decide +kernel
theorem dX0_note_17 : decode cX0_note 17 = .ok (.iload_n 1, 1) := by decide +kernel
theorem dX0_note_18 : decode cX0_note 18 = .ok (.iastore, 1) := by decide +kernel
theorem dX0_note_19 : decode cX0_note 19 = .ok (.aload_n 0, 1) := by decide +kernel
theorem dX0_note_20 : decode cX0_note 20 = .ok (.dup, 1) := by decide +kernel
theorem dX0_note_21 : decode cX0_note 21 = .ok (.getfield 15, 3) := by decide +kernel
theorem dX0_note_24 : decode cX0_note 24 = .ok (.iconst 1, 1) := by decide +kernel
theorem dX0_note_25 : decode cX0_note 25 = .ok (.iadd, 1) := by decide +kernel
theorem dX0_note_26 : decode cX0_note 26 = .ok (.putfield 15, 3) := by decide +kernel
theorem dX0_note_29 : decode cX0_note 29 = .ok (.return_, 1) := by decide +kernel
theorem dX1_init_0 : decode cX1_init 0 = .ok (.aload_n 0, 1) := by decide +kernel
theorem dX1_init_1 : decode cX1_init 1 = .ok (.invokespecial 3, 3) := by decide +kernel
theorem dX1_init_4 : decode cX1_init 4 = .ok (.aload_n 0, 1) := by decide +kernel
theorem dX1_init_5 : decode cX1_init 5 = .ok (.new 9, 3) := by decide +kernel
theorem dX1_init_8 : decode cX1_init 8 = .ok (.dup, 1) := by decide +kernel
theorem dX1_init_9 : decode cX1_init 9 = .ok (.invokespecial 11, 3) := by decide +kernel
theorem dX1_init_12 : decode cX1_init 12 = .ok (.putfield 12, 3) := by decide +kernel
theorem dX1_init_15 : decode cX1_init 15 = .ok (.aload_n 0, 1) := by decide +kernel
theorem dX1_init_16 : decode cX1_init 16 = .ok (.iconst 0, 1) := by decide +kernel
theorem dX1_init_17 : decode cX1_init 17 = .ok (.putfield 18, 3) := by decide +kernel
theorem dX1_init_20 : decode cX1_init 20 = .ok (.aload_n 0, 1) := by decide +kernel
theorem dX1_init_21 : decode cX1_init 21 = .ok (.bipush (-5), 2) := by decide +kernel
theorem dX1_init_23 : decode cX1_init 23 = .ok (.putfield 22, 3) := by decide +kernel
theorem dX1_init_26 : decode cX1_init 26 = .ok (.aload_n 0, 1) := by decide +kernel
theorem dX1_init_27 : decode cX1_init 27 = .ok (.aload_n 1, 1) := by decide +kernel
theorem dX1_init_28 : decode cX1_init 28 = .ok (.putfield 25, 3) := by decide +kernel
theorem dX1_init_31 : decode cX1_init 31 = .ok (.return_, 1) := by decide +kernel
theorem dX1_begin_0 : decode cX1_begin 0 = .ok (.aload_n 0, 1) := by decide +kernel
theorem dX1_begin_1 : decode cX1_begin 1 = .ok (.getfield 12, 3) := by decide +kernel
theorem dX1_begin_4 : decode cX1_begin 4 = .ok (.aload_n 0, 1) := by decide +kernel
theorem dX1_begin_5 : decode cX1_begin 5 = .ok (.getfield 25, 3) := by decide +kernel
theorem dX1_begin_8 : decode cX1_begin 8 = .ok (.getfield 29, 3) := by decide +kernel
theorem dX1_begin_11 : decode cX1_begin 11 = .ok (.invokevirtual 34, 3) := by decide +kernel
theorem dX1_begin_14 : decode cX1_begin 14 = .ok (.return_, 1) := by decide +kernel
theorem dX1_tellOften_0 : decode cX1_tellOften 0 = .ok (.iconst 0, 1) := by decide +kernel
theorem dX1_tellOften_1 : decode cX1_tellOften 1 = .ok (.istore_n 3, 1) := by decide +kernel
theorem dX1_tellOften_2 : decode cX1_tellOften 2 = .ok (.iload_n 3, 1) := by decide +kernel
theorem dX1_tellOften_3 : decode cX1_tellOften 3 = .ok (.iload_n 2, 1) := by decide +kernel
theorem dX1_tellOften_4 : decode cX1_tellOften 4 = .ok (.if_icmp .ge 22, 3) := by decide +kernel
theorem dX1_tellOften_7 : decode cX1_tellOften 7 = .ok (.aload_n 0, 1) := by decide +kernel
theorem dX1_tellOften_8 : decode cX1_tellOften 8 = .ok (.getfield 25, 3) := by decide +kernel
theorem dX1_tellOften_11 : decode cX1_tellOften 11 = .ok (.aload_n 0, 1) := by decide +kernel
theorem dX1_tellOften_12 : decode cX1_tellOften 12 = .ok (.getfield 12, 3) := by decide +kernel
theorem dX1_tellOften_15 : decode cX1_tellOften 15 = .ok (.iload_n 1, 1) := by decide +kernel
theorem dX1_tellOften_16 : decode cX1_tellOften 16 = .ok (.invokevirtual 38, 3) := by decide +kernel
theorem dX1_tellOften_19 : decode cX1_tellOften 19 = .ok (.pop, 1) := by decide +kernel
theorem dX1_tellOften_20 : decode cX1_tellOften 20 = .ok (.iinc 3 1, 3) := by decide +kernel
theorem dX1_tellOften_23 : decode cX1_tellOften 23 = .ok (.goto (-21), 3) := by decide +kernel
theorem dX1_tellOften_26 : decode cX1_tellOften 26 = .ok (.return_, 1) := by decide +kernel
theorem dX1_behind_0 : decode cX1_behind 0 = .ok (.aload_n 0, 1) := by decide +kernel
theorem dX1_behind_1 : decode cX1_behind 1 = .ok (.invokevirtual 42, 3) := by decide +kernel
theorem dX1_behind_4 : decode cX1_behind 4 = .ok (.aload_n 0, 1) := by decide +kernel
theorem dX1_behind_5 : decode cX1_behind 5 = .ok (.iload_n 1, 1) := by decide +kernel
theorem dX1_behind_6 : decode cX1_behind 6 = .ok (.iload_n 2, 1) := by decide +kernel
theorem dX1_behind_7 : decode cX1_behind 7 = .ok (.invokevirtual 45, 3) := by decide +kernel
theorem dX1_behind_10 : decode cX1_behind 10 = .ok (.iload_n 3, 1) := by decide +kernel
theorem dX1_behind_11 : decode cX1_behind 11 = .ok (.lookupswitch 53 #[(0, 25), (1, 35)], 25) := by decide +kernel
theorem dX1_behind_36 : decode cX1_behind 36 = .ok (.aload_n 0, 1) := by decide +kernel
theorem dX1_behind_37 : decode cX1_behind 37 = .ok (.getfield 12, 3) := by decide +kernel
theorem dX1_behind_40 : decode cX1_behind 40 = .ok (.getfield 49, 3) := by decide +kernel
theorem dX1_behind_43 : decode cX1_behind 43 = .ok (.iload_n 1, 1) := by decide +kernel
theorem dX1_behind_44 : decode cX1_behind 44 = .ok (.iaload, 1) := by decide +kernel
theorem dX1_behind_45 : decode cX1_behind 45 = .ok (.ireturn, 1) := by decide +kernel
theorem dX1_behind_46 : decode cX1_behind 46 = .ok (.aload_n 0, 1) := by decide +kernel
theorem dX1_behind_47 : decode cX1_behind 47 = .ok (.getfield 12, 3) := by decide +kernel
theorem dX1_behind_50 : decode cX1_behind 50 = .ok (.getfield 53, 3) := by decide +kernel
theorem dX1_behind_53 : decode cX1_behind 53 = .ok (.iload_n 1, 1) := by decide +kernel
theorem dX1_behind_54 : decode cX1_behind 54 = .ok (.baload, 1) := by decide +kernel
theorem dX1_behind_55 : decode cX1_behind 55 = .ok (.ifCond .eq 7, 3) := by decide +kernel
theorem dX1_behind_58 : decode cX1_behind 58 = .ok (.iconst 1, 1) := by decide +kernel
theorem dX1_behind_59 : decode cX1_behind 59 = .ok (.goto 4, 3) := by decide +kernel
theorem dX1_behind_62 : decode cX1_behind 62 = .ok (.iconst 0, 1) := by decide +kernel
theorem dX1_behind_63 : decode cX1_behind 63 = .ok (.ireturn, 1) := by decide +kernel
theorem dX1_behind_64 : decode cX1_behind 64 = .ok (.aload_n 0, 1) := by decide +kernel
theorem dX1_behind_65 : decode cX1_behind 65 = .ok (.getfield 25, 3) := by decide +kernel
theorem dX1_behind_68 : decode cX1_behind 68 = .ok (.aload_n 0, 1) := by decide +kernel
theorem dX1_behind_69 : decode cX1_behind 69 = .ok (.getfield 12, 3) := by decide +kernel
theorem dX1_behind_72 : decode cX1_behind 72 = .ok (.iload_n 1, 1) := by decide +kernel
theorem dX1_behind_73 : decode cX1_behind 73 = .ok (.invokevirtual 57, 3) := by decide +kernel
theorem dX1_behind_76 : decode cX1_behind 76 = .ok (.ireturn, 1) := by decide +kernel
theorem dX1_whole_0 : decode cX1_whole 0 = .ok (.aload_n 0, 1) := by decide +kernel
theorem dX1_whole_1 : decode cX1_whole 1 = .ok (.invokevirtual 42, 3) := by decide +kernel
theorem dX1_whole_4 : decode cX1_whole 4 = .ok (.iconst 0, 1) := by decide +kernel
theorem dX1_whole_5 : decode cX1_whole 5 = .ok (.istore_n 2, 1) := by decide +kernel
theorem dX1_whole_6 : decode cX1_whole 6 = .ok (.iload_n 2, 1) := by decide +kernel
theorem dX1_whole_7 : decode cX1_whole 7 = .ok (.bipush 60, 2) := by decide +kernel
theorem dX1_whole_9 : decode cX1_whole 9 = .ok (.if_icmp .gt 35, 3) := by decide +kernel
theorem dX1_whole_12 : decode cX1_whole 12 = .ok (.aload_n 0, 1) := by decide +kernel
theorem dX1_whole_13 : decode cX1_whole 13 = .ok (.getfield 12, 3) := by decide +kernel
theorem dX1_whole_16 : decode cX1_whole 16 = .ok (.iload_n 1, 1) := by decide +kernel
theorem dX1_whole_17 : decode cX1_whole 17 = .ok (.invokevirtual 60, 3) := by decide +kernel
theorem dX1_whole_20 : decode cX1_whole 20 = .ok (.ifCond .eq 5, 3) := by decide +kernel
theorem dX1_whole_23 : decode cX1_whole 23 = .ok (.iload_n 2, 1) := by decide +kernel
theorem dX1_whole_24 : decode cX1_whole 24 = .ok (.ireturn, 1) := by decide +kernel
theorem dX1_whole_25 : decode cX1_whole 25 = .ok (.aload_n 0, 1) := by decide +kernel
theorem dX1_whole_26 : decode cX1_whole 26 = .ok (.getfield 25, 3) := by decide +kernel
theorem dX1_whole_29 : decode cX1_whole 29 = .ok (.aload_n 0, 1) := by decide +kernel
theorem dX1_whole_30 : decode cX1_whole 30 = .ok (.getfield 12, 3) := by decide +kernel
theorem dX1_whole_33 : decode cX1_whole 33 = .ok (.iload_n 1, 1) := by decide +kernel
theorem dX1_whole_34 : decode cX1_whole 34 = .ok (.invokevirtual 38, 3) := by decide +kernel
theorem dX1_whole_37 : decode cX1_whole 37 = .ok (.pop, 1) := by decide +kernel
theorem dX1_whole_38 : decode cX1_whole 38 = .ok (.iinc 2 1, 3) := by decide +kernel
theorem dX1_whole_41 : decode cX1_whole 41 = .ok (.goto (-35), 3) := by decide +kernel
theorem dX1_whole_44 : decode cX1_whole 44 = .ok (.bipush (-5), 2) := by decide +kernel
theorem dX1_whole_46 : decode cX1_whole 46 = .ok (.ireturn, 1) := by decide +kernel
theorem dX1_minded_0 : decode cX1_minded 0 = .ok (.aload_n 0, 1) := by decide +kernel
theorem dX1_minded_1 : decode cX1_minded 1 = .ok (.getfield 25, 3) := by decide +kernel
theorem dX1_minded_4 : decode cX1_minded 4 = .ok (.getfield 29, 3) := by decide +kernel
theorem dX1_minded_7 : decode cX1_minded 7 = .ok (.getfield 53, 3) := by decide +kernel
theorem dX1_minded_10 : decode cX1_minded 10 = .ok (.iload_n 1, 1) := by decide +kernel
theorem dX1_minded_11 : decode cX1_minded 11 = .ok (.baload, 1) := by decide +kernel
theorem dX1_minded_12 : decode cX1_minded 12 = .ok (.ifCond .eq 6, 3) := by decide +kernel
theorem dX1_minded_15 : decode cX1_minded 15 = .ok (.bipush (-5), 2) := by decide +kernel
theorem dX1_minded_17 : decode cX1_minded 17 = .ok (.ireturn, 1) := by decide +kernel
theorem dX1_minded_18 : decode cX1_minded 18 = .ok (.aload_n 0, 1) := by decide +kernel
theorem dX1_minded_19 : decode cX1_minded 19 = .ok (.getfield 25, 3) := by decide +kernel
theorem dX1_minded_22 : decode cX1_minded 22 = .ok (.getfield 29, 3) := by decide +kernel
theorem dX1_minded_25 : decode cX1_minded 25 = .ok (.getfield 49, 3) := by decide +kernel
theorem dX1_minded_28 : decode cX1_minded 28 = .ok (.iload_n 1, 1) := by decide +kernel
theorem dX1_minded_29 : decode cX1_minded 29 = .ok (.iaload, 1) := by decide +kernel
theorem dX1_minded_30 : decode cX1_minded 30 = .ok (.istore_n 2, 1) := by decide +kernel
theorem dX1_minded_31 : decode cX1_minded 31 = .ok (.iload_n 2, 1) := by decide +kernel
theorem dX1_minded_32 : decode cX1_minded 32 = .ok (.aload_n 0, 1) := by decide +kernel
theorem dX1_minded_33 : decode cX1_minded 33 = .ok (.getfield 25, 3) := by decide +kernel
theorem dX1_minded_36 : decode cX1_minded 36 = .ok (.getfield 29, 3) := by decide +kernel
theorem dX1_minded_39 : decode cX1_minded 39 = .ok (.getfield 64, 3) := by decide +kernel
theorem dX1_minded_42 : decode cX1_minded 42 = .ok (.if_icmp .ge 23, 3) := by decide +kernel
theorem dX1_minded_45 : decode cX1_minded 45 = .ok (.aload_n 0, 1) := by decide +kernel
theorem dX1_minded_46 : decode cX1_minded 46 = .ok (.getfield 25, 3) := by decide +kernel
theorem dX1_minded_49 : decode cX1_minded 49 = .ok (.iload_n 1, 1) := by decide +kernel
theorem dX1_minded_50 : decode cX1_minded 50 = .ok (.iload_n 2, 1) := by decide +kernel
theorem dX1_minded_51 : decode cX1_minded 51 = .ok (.invokevirtual 67, 3) := by decide +kernel
theorem dX1_minded_54 : decode cX1_minded 54 = .ok (.ifCond .eq 5, 3) := by decide +kernel
theorem dX1_minded_57 : decode cX1_minded 57 = .ok (.iload_n 2, 1) := by decide +kernel
theorem dX1_minded_58 : decode cX1_minded 58 = .ok (.ireturn, 1) := by decide +kernel
theorem dX1_minded_59 : decode cX1_minded 59 = .ok (.iinc 2 1, 3) := by decide +kernel
theorem dX1_minded_62 : decode cX1_minded 62 = .ok (.goto (-31), 3) := by decide +kernel
theorem dX1_minded_65 : decode cX1_minded 65 = .ok (.bipush (-5), 2) := by decide +kernel
theorem dX1_minded_67 : decode cX1_minded 67 = .ok (.ireturn, 1) := by decide +kernel
theorem dX1_bestNext_0 : decode cX1_bestNext 0 = .ok (.bipush (-5), 2) := by decide +kernel
theorem dX1_bestNext_2 : decode cX1_bestNext 2 = .ok (.istore_n 1, 1) := by decide +kernel
theorem dX1_bestNext_3 : decode cX1_bestNext 3 = .ok (.ldc 73, 2) := by decide +kernel
theorem dX1_bestNext_5 : decode cX1_bestNext 5 = .ok (.istore_n 2, 1) := by decide +kernel
theorem dX1_bestNext_6 : decode cX1_bestNext 6 = .ok (.iconst 0, 1) := by decide +kernel
theorem dX1_bestNext_7 : decode cX1_bestNext 7 = .ok (.istore_n 3, 1) := by decide +kernel
theorem dX1_bestNext_8 : decode cX1_bestNext 8 = .ok (.iload_n 3, 1) := by decide +kernel
theorem dX1_bestNext_9 : decode cX1_bestNext 9 = .ok (.aload_n 0, 1) := by decide +kernel
theorem dX1_bestNext_10 : decode cX1_bestNext 10 = .ok (.getfield 25, 3) := by decide +kernel
theorem dX1_bestNext_13 : decode cX1_bestNext 13 = .ok (.getfield 74, 3) := by decide +kernel
theorem dX1_bestNext_16 : decode cX1_bestNext 16 = .ok (.if_icmp .ge 50, 3) := by decide +kernel
theorem dX1_bestNext_19 : decode cX1_bestNext 19 = .ok (.aload_n 0, 1) := by decide +kernel
theorem dX1_bestNext_20 : decode cX1_bestNext 20 = .ok (.invokevirtual 42, 3) := by decide +kernel
theorem dX1_bestNext_23 : decode cX1_bestNext 23 = .ok (.aload_n 0, 1) := by decide +kernel
theorem dX1_bestNext_24 : decode cX1_bestNext 24 = .ok (.getfield 25, 3) := by decide +kernel
theorem dX1_bestNext_27 : decode cX1_bestNext 27 = .ok (.aload_n 0, 1) := by decide +kernel
theorem dX1_bestNext_28 : decode cX1_bestNext 28 = .ok (.getfield 12, 3) := by decide +kernel
theorem dX1_bestNext_31 : decode cX1_bestNext 31 = .ok (.iload_n 3, 1) := by decide +kernel
theorem dX1_bestNext_32 : decode cX1_bestNext 32 = .ok (.invokevirtual 38, 3) := by decide +kernel
theorem dX1_bestNext_35 : decode cX1_bestNext 35 = .ok (.pop, 1) := by decide +kernel
theorem dX1_bestNext_36 : decode cX1_bestNext 36 = .ok (.aload_n 0, 1) := by decide +kernel
theorem dX1_bestNext_37 : decode cX1_bestNext 37 = .ok (.getfield 25, 3) := by decide +kernel
theorem dX1_bestNext_40 : decode cX1_bestNext 40 = .ok (.aload_n 0, 1) := by decide +kernel
theorem dX1_bestNext_41 : decode cX1_bestNext 41 = .ok (.getfield 12, 3) := by decide +kernel
theorem dX1_bestNext_44 : decode cX1_bestNext 44 = .ok (.invokevirtual 77, 3) := by decide +kernel
theorem dX1_bestNext_47 : decode cX1_bestNext 47 = .ok (.istore 4, 2) := by decide +kernel
theorem dX1_bestNext_49 : decode cX1_bestNext 49 = .ok (.iload 4, 2) := by decide +kernel
theorem dX1_bestNext_51 : decode cX1_bestNext 51 = .ok (.iload_n 2, 1) := by decide +kernel
theorem dX1_bestNext_52 : decode cX1_bestNext 52 = .ok (.if_icmp .ge 8, 3) := by decide +kernel
theorem dX1_bestNext_55 : decode cX1_bestNext 55 = .ok (.iload 4, 2) := by decide +kernel
theorem dX1_bestNext_57 : decode cX1_bestNext 57 = .ok (.istore_n 2, 1) := by decide +kernel
theorem dX1_bestNext_58 : decode cX1_bestNext 58 = .ok (.iload_n 3, 1) := by decide +kernel
theorem dX1_bestNext_59 : decode cX1_bestNext 59 = .ok (.istore_n 1, 1) := by decide +kernel
theorem dX1_bestNext_60 : decode cX1_bestNext 60 = .ok (.iinc 3 1, 3) := by decide +kernel
theorem dX1_bestNext_63 : decode cX1_bestNext 63 = .ok (.goto (-55), 3) := by decide +kernel
theorem dX1_bestNext_66 : decode cX1_bestNext 66 = .ok (.iload_n 1, 1) := by decide +kernel
theorem dX1_bestNext_67 : decode cX1_bestNext 67 = .ok (.ireturn, 1) := by decide +kernel
theorem dX1_howManyUpBehind_0 : decode cX1_howManyUpBehind 0 = .ok (.iconst 0, 1) := by decide +kernel
theorem dX1_howManyUpBehind_1 : decode cX1_howManyUpBehind 1 = .ok (.istore_n 2, 1) := by decide +kernel
theorem dX1_howManyUpBehind_2 : decode cX1_howManyUpBehind 2 = .ok (.iconst 0, 1) := by decide +kernel
theorem dX1_howManyUpBehind_3 : decode cX1_howManyUpBehind 3 = .ok (.istore_n 3, 1) := by decide +kernel
theorem dX1_howManyUpBehind_4 : decode cX1_howManyUpBehind 4 = .ok (.iload_n 3, 1) := by decide +kernel
theorem dX1_howManyUpBehind_5 : decode cX1_howManyUpBehind 5 = .ok (.aload_n 0, 1) := by decide +kernel
theorem dX1_howManyUpBehind_6 : decode cX1_howManyUpBehind 6 = .ok (.getfield 25, 3) := by decide +kernel
theorem dX1_howManyUpBehind_9 : decode cX1_howManyUpBehind 9 = .ok (.getfield 74, 3) := by decide +kernel
theorem dX1_howManyUpBehind_12 : decode cX1_howManyUpBehind 12 = .ok (.if_icmp .ge 33, 3) := by decide +kernel
theorem dX1_howManyUpBehind_15 : decode cX1_howManyUpBehind 15 = .ok (.aload_n 0, 1) := by decide +kernel
theorem dX1_howManyUpBehind_16 : decode cX1_howManyUpBehind 16 = .ok (.invokevirtual 42, 3) := by decide +kernel
theorem dX1_howManyUpBehind_19 : decode cX1_howManyUpBehind 19 = .ok (.aload_n 0, 1) := by decide +kernel
theorem dX1_howManyUpBehind_20 : decode cX1_howManyUpBehind 20 = .ok (.iload_n 3, 1) := by decide +kernel
theorem dX1_howManyUpBehind_21 : decode cX1_howManyUpBehind 21 = .ok (.iload_n 1, 1) := by decide +kernel
theorem dX1_howManyUpBehind_22 : decode cX1_howManyUpBehind 22 = .ok (.invokevirtual 45, 3) := by decide +kernel
theorem dX1_howManyUpBehind_25 : decode cX1_howManyUpBehind 25 = .ok (.aload_n 0, 1) := by decide +kernel
theorem dX1_howManyUpBehind_26 : decode cX1_howManyUpBehind 26 = .ok (.getfield 12, 3) := by decide +kernel
theorem dX1_howManyUpBehind_29 : decode cX1_howManyUpBehind 29 = .ok (.iload_n 3, 1) := by decide +kernel
theorem dX1_howManyUpBehind_30 : decode cX1_howManyUpBehind 30 = .ok (.invokevirtual 60, 3) := by decide +kernel
theorem dX1_howManyUpBehind_33 : decode cX1_howManyUpBehind 33 = .ok (.ifCond .eq 6, 3) := by decide +kernel
theorem dX1_howManyUpBehind_36 : decode cX1_howManyUpBehind 36 = .ok (.iinc 2 1, 3) := by decide +kernel
theorem dX1_howManyUpBehind_39 : decode cX1_howManyUpBehind 39 = .ok (.iinc 3 1, 3) := by decide +kernel
theorem dX1_howManyUpBehind_42 : decode cX1_howManyUpBehind 42 = .ok (.goto (-38), 3) := by decide +kernel
theorem dX1_howManyUpBehind_45 : decode cX1_howManyUpBehind 45 = .ok (.iload_n 2, 1) := by decide +kernel
theorem dX1_howManyUpBehind_46 : decode cX1_howManyUpBehind 46 = .ok (.ireturn, 1) := by decide +kernel
theorem dX1_monthEnds_0 : decode cX1_monthEnds 0 = .ok (.aload_n 0, 1) := by decide +kernel
theorem dX1_monthEnds_1 : decode cX1_monthEnds 1 = .ok (.invokevirtual 42, 3) := by decide +kernel
theorem dX1_monthEnds_4 : decode cX1_monthEnds 4 = .ok (.iconst 0, 1) := by decide +kernel
theorem dX1_monthEnds_5 : decode cX1_monthEnds 5 = .ok (.istore_n 2, 1) := by decide +kernel
theorem dX1_monthEnds_6 : decode cX1_monthEnds 6 = .ok (.iload_n 2, 1) := by decide +kernel
theorem dX1_monthEnds_7 : decode cX1_monthEnds 7 = .ok (.aload_n 0, 1) := by decide +kernel
theorem dX1_monthEnds_8 : decode cX1_monthEnds 8 = .ok (.getfield 25, 3) := by decide +kernel
theorem dX1_monthEnds_11 : decode cX1_monthEnds 11 = .ok (.getfield 81, 3) := by decide +kernel
theorem dX1_monthEnds_14 : decode cX1_monthEnds 14 = .ok (.getfield 85, 3) := by decide +kernel
theorem dX1_monthEnds_17 : decode cX1_monthEnds 17 = .ok (.if_icmp .ge 55, 3) := by decide +kernel
theorem dX1_monthEnds_20 : decode cX1_monthEnds 20 = .ok (.aload_n 0, 1) := by decide +kernel
theorem dX1_monthEnds_21 : decode cX1_monthEnds 21 = .ok (.getfield 25, 3) := by decide +kernel
theorem dX1_monthEnds_24 : decode cX1_monthEnds 24 = .ok (.getfield 81, 3) := by decide +kernel
theorem dX1_monthEnds_27 : decode cX1_monthEnds 27 = .ok (.iload_n 2, 1) := by decide +kernel
theorem dX1_monthEnds_28 : decode cX1_monthEnds 28 = .ok (.iconst 0, 1) := by decide +kernel
theorem dX1_monthEnds_29 : decode cX1_monthEnds 29 = .ok (.invokevirtual 90, 3) := by decide +kernel
theorem dX1_monthEnds_32 : decode cX1_monthEnds 32 = .ok (.istore_n 3, 1) := by decide +kernel
theorem dX1_monthEnds_33 : decode cX1_monthEnds 33 = .ok (.iload_n 3, 1) := by decide +kernel
theorem dX1_monthEnds_34 : decode cX1_monthEnds 34 = .ok (.bipush 6, 2) := by decide +kernel
theorem dX1_monthEnds_36 : decode cX1_monthEnds 36 = .ok (.if_icmp .ne 17, 3) := by decide +kernel
theorem dX1_monthEnds_39 : decode cX1_monthEnds 39 = .ok (.aload_n 0, 1) := by decide +kernel
theorem dX1_monthEnds_40 : decode cX1_monthEnds 40 = .ok (.getfield 25, 3) := by decide +kernel
theorem dX1_monthEnds_43 : decode cX1_monthEnds 43 = .ok (.aload_n 0, 1) := by decide +kernel
theorem dX1_monthEnds_44 : decode cX1_monthEnds 44 = .ok (.getfield 12, 3) := by decide +kernel
theorem dX1_monthEnds_47 : decode cX1_monthEnds 47 = .ok (.invokevirtual 94, 3) := by decide +kernel
theorem dX1_monthEnds_50 : decode cX1_monthEnds 50 = .ok (.goto 16, 3) := by decide +kernel
theorem dX1_monthEnds_53 : decode cX1_monthEnds 53 = .ok (.aload_n 0, 1) := by decide +kernel
theorem dX1_monthEnds_54 : decode cX1_monthEnds 54 = .ok (.getfield 25, 3) := by decide +kernel
theorem dX1_monthEnds_57 : decode cX1_monthEnds 57 = .ok (.aload_n 0, 1) := by decide +kernel
theorem dX1_monthEnds_58 : decode cX1_monthEnds 58 = .ok (.getfield 12, 3) := by decide +kernel
theorem dX1_monthEnds_61 : decode cX1_monthEnds 61 = .ok (.iload_n 3, 1) := by decide +kernel
theorem dX1_monthEnds_62 : decode cX1_monthEnds 62 = .ok (.invokevirtual 38, 3) := by decide +kernel
theorem dX1_monthEnds_65 : decode cX1_monthEnds 65 = .ok (.pop, 1) := by decide +kernel
theorem dX1_monthEnds_66 : decode cX1_monthEnds 66 = .ok (.iinc 2 1, 3) := by decide +kernel
theorem dX1_monthEnds_69 : decode cX1_monthEnds 69 = .ok (.goto (-63), 3) := by decide +kernel
theorem dX1_monthEnds_72 : decode cX1_monthEnds 72 = .ok (.iload_n 1, 1) := by decide +kernel
theorem dX1_monthEnds_73 : decode cX1_monthEnds 73 = .ok (.ifCond .ne 17, 3) := by decide +kernel
theorem dX1_monthEnds_76 : decode cX1_monthEnds 76 = .ok (.aload_n 0, 1) := by decide +kernel
theorem dX1_monthEnds_77 : decode cX1_monthEnds 77 = .ok (.getfield 25, 3) := by decide +kernel
theorem dX1_monthEnds_80 : decode cX1_monthEnds 80 = .ok (.aload_n 0, 1) := by decide +kernel
theorem dX1_monthEnds_81 : decode cX1_monthEnds 81 = .ok (.getfield 12, 3) := by decide +kernel
theorem dX1_monthEnds_84 : decode cX1_monthEnds 84 = .ok (.invokevirtual 97, 3) := by decide +kernel
theorem dX1_monthEnds_87 : decode cX1_monthEnds 87 = .ok (.goto 14, 3) := by decide +kernel
theorem dX1_monthEnds_90 : decode cX1_monthEnds 90 = .ok (.aload_n 0, 1) := by decide +kernel
theorem dX1_monthEnds_91 : decode cX1_monthEnds 91 = .ok (.getfield 25, 3) := by decide +kernel
theorem dX1_monthEnds_94 : decode cX1_monthEnds 94 = .ok (.aload_n 0, 1) := by decide +kernel
theorem dX1_monthEnds_95 : decode cX1_monthEnds 95 = .ok (.getfield 12, 3) := by decide +kernel
theorem dX1_monthEnds_98 : decode cX1_monthEnds 98 = .ok (.invokevirtual 77, 3) := by decide +kernel
theorem dX1_monthEnds_101 : decode cX1_monthEnds 101 = .ok (.ireturn, 1) := by decide +kernel
theorem dX1_weighDays_0 : decode cX1_weighDays 0 = .ok (.aload_n 0, 1) := by decide +kernel
theorem dX1_weighDays_1 : decode cX1_weighDays 1 = .ok (.invokevirtual 100, 3) := by decide +kernel
theorem dX1_weighDays_4 : decode cX1_weighDays 4 = .ok (.aload_n 0, 1) := by decide +kernel
theorem dX1_weighDays_5 : decode cX1_weighDays 5 = .ok (.getfield 25, 3) := by decide +kernel
theorem dX1_weighDays_8 : decode cX1_weighDays 8 = .ok (.getfield 29, 3) := by decide +kernel
theorem dX1_weighDays_11 : decode cX1_weighDays 11 = .ok (.getfield 64, 3) := by decide +kernel
theorem dX1_weighDays_14 : decode cX1_weighDays 14 = .ok (.istore_n 2, 1) := by decide +kernel
theorem dX1_weighDays_15 : decode cX1_weighDays 15 = .ok (.iconst 0, 1) := by decide +kernel
theorem dX1_weighDays_16 : decode cX1_weighDays 16 = .ok (.istore_n 3, 1) := by decide +kernel
theorem dX1_weighDays_17 : decode cX1_weighDays 17 = .ok (.iload_n 3, 1) := by decide +kernel
theorem dX1_weighDays_18 : decode cX1_weighDays 18 = .ok (.bipush 99, 2) := by decide +kernel
theorem dX1_weighDays_20 : decode cX1_weighDays 20 = .ok (.if_icmp .gt 23, 3) := by decide +kernel
theorem dX1_weighDays_23 : decode cX1_weighDays 23 = .ok (.iload_n 3, 1) := by decide +kernel
theorem dX1_weighDays_24 : decode cX1_weighDays 24 = .ok (.iload_n 2, 1) := by decide +kernel
theorem dX1_weighDays_25 : decode cX1_weighDays 25 = .ok (.if_icmp .gt 18, 3) := by decide +kernel
theorem dX1_weighDays_28 : decode cX1_weighDays 28 = .ok (.aload_n 0, 1) := by decide +kernel
theorem dX1_weighDays_29 : decode cX1_weighDays 29 = .ok (.iload_n 1, 1) := by decide +kernel
theorem dX1_weighDays_30 : decode cX1_weighDays 30 = .ok (.iload_n 2, 1) := by decide +kernel
theorem dX1_weighDays_31 : decode cX1_weighDays 31 = .ok (.iload_n 3, 1) := by decide +kernel
theorem dX1_weighDays_32 : decode cX1_weighDays 32 = .ok (.isub, 1) := by decide +kernel
theorem dX1_weighDays_33 : decode cX1_weighDays 33 = .ok (.iload_n 3, 1) := by decide +kernel
theorem dX1_weighDays_34 : decode cX1_weighDays 34 = .ok (.invokevirtual 103, 3) := by decide +kernel
theorem dX1_weighDays_37 : decode cX1_weighDays 37 = .ok (.iinc 3 1, 3) := by decide +kernel
theorem dX1_weighDays_40 : decode cX1_weighDays 40 = .ok (.goto (-23), 3) := by decide +kernel
theorem dX1_weighDays_43 : decode cX1_weighDays 43 = .ok (.return_, 1) := by decide +kernel
theorem dX1_weighValues_0 : decode cX1_weighValues 0 = .ok (.aload_n 0, 1) := by decide +kernel
theorem dX1_weighValues_1 : decode cX1_weighValues 1 = .ok (.invokevirtual 100, 3) := by decide +kernel
theorem dX1_weighValues_4 : decode cX1_weighValues 4 = .ok (.aload_n 0, 1) := by decide +kernel
theorem dX1_weighValues_5 : decode cX1_weighValues 5 = .ok (.getfield 25, 3) := by decide +kernel
theorem dX1_weighValues_8 : decode cX1_weighValues 8 = .ok (.getfield 107, 3) := by decide +kernel
theorem dX1_weighValues_11 : decode cX1_weighValues 11 = .ok (.iload_n 1, 1) := by decide +kernel
theorem dX1_weighValues_12 : decode cX1_weighValues 12 = .ok (.iaload, 1) := by decide +kernel
theorem dX1_weighValues_13 : decode cX1_weighValues 13 = .ok (.istore_n 2, 1) := by decide +kernel
theorem dX1_weighValues_14 : decode cX1_weighValues 14 = .ok (.iconst 0, 1) := by decide +kernel
theorem dX1_weighValues_15 : decode cX1_weighValues 15 = .ok (.istore_n 3, 1) := by decide +kernel
theorem dX1_weighValues_16 : decode cX1_weighValues 16 = .ok (.iload_n 3, 1) := by decide +kernel
theorem dX1_weighValues_17 : decode cX1_weighValues 17 = .ok (.bipush 9, 2) := by decide +kernel
theorem dX1_weighValues_19 : decode cX1_weighValues 19 = .ok (.if_icmp .gt 45, 3) := by decide +kernel
theorem dX1_weighValues_22 : decode cX1_weighValues 22 = .ok (.aload_n 0, 1) := by decide +kernel
theorem dX1_weighValues_23 : decode cX1_weighValues 23 = .ok (.getfield 25, 3) := by decide +kernel
theorem dX1_weighValues_26 : decode cX1_weighValues 26 = .ok (.getfield 107, 3) := by decide +kernel
theorem dX1_weighValues_29 : decode cX1_weighValues 29 = .ok (.iload_n 1, 1) := by decide +kernel
theorem dX1_weighValues_30 : decode cX1_weighValues 30 = .ok (.iload_n 3, 1) := by decide +kernel
theorem dX1_weighValues_31 : decode cX1_weighValues 31 = .ok (.iastore, 1) := by decide +kernel
theorem dX1_weighValues_32 : decode cX1_weighValues 32 = .ok (.aload_n 0, 1) := by decide +kernel
theorem dX1_weighValues_33 : decode cX1_weighValues 33 = .ok (.getfield 25, 3) := by decide +kernel
theorem dX1_weighValues_36 : decode cX1_weighValues 36 = .ok (.iload_n 1, 1) := by decide +kernel
theorem dX1_weighValues_37 : decode cX1_weighValues 37 = .ok (.invokevirtual 110, 3) := by decide +kernel
theorem dX1_weighValues_40 : decode cX1_weighValues 40 = .ok (.aload_n 0, 1) := by decide +kernel
theorem dX1_weighValues_41 : decode cX1_weighValues 41 = .ok (.iload_n 1, 1) := by decide +kernel
theorem dX1_weighValues_42 : decode cX1_weighValues 42 = .ok (.aload_n 0, 1) := by decide +kernel
theorem dX1_weighValues_43 : decode cX1_weighValues 43 = .ok (.getfield 25, 3) := by decide +kernel
theorem dX1_weighValues_46 : decode cX1_weighValues 46 = .ok (.getfield 29, 3) := by decide +kernel
theorem dX1_weighValues_49 : decode cX1_weighValues 49 = .ok (.getfield 49, 3) := by decide +kernel
theorem dX1_weighValues_52 : decode cX1_weighValues 52 = .ok (.iload_n 1, 1) := by decide +kernel
theorem dX1_weighValues_53 : decode cX1_weighValues 53 = .ok (.iaload, 1) := by decide +kernel
theorem dX1_weighValues_54 : decode cX1_weighValues 54 = .ok (.iload_n 3, 1) := by decide +kernel
theorem dX1_weighValues_55 : decode cX1_weighValues 55 = .ok (.invokevirtual 103, 3) := by decide +kernel
theorem dX1_weighValues_58 : decode cX1_weighValues 58 = .ok (.iinc 3 1, 3) := by decide +kernel
theorem dX1_weighValues_61 : decode cX1_weighValues 61 = .ok (.goto (-45), 3) := by decide +kernel
theorem dX1_weighValues_64 : decode cX1_weighValues 64 = .ok (.aload_n 0, 1) := by decide +kernel
theorem dX1_weighValues_65 : decode cX1_weighValues 65 = .ok (.getfield 25, 3) := by decide +kernel
theorem dX1_weighValues_68 : decode cX1_weighValues 68 = .ok (.getfield 107, 3) := by decide +kernel
theorem dX1_weighValues_71 : decode cX1_weighValues 71 = .ok (.iload_n 1, 1) := by decide +kernel
theorem dX1_weighValues_72 : decode cX1_weighValues 72 = .ok (.iload_n 2, 1) := by decide +kernel
theorem dX1_weighValues_73 : decode cX1_weighValues 73 = .ok (.iastore, 1) := by decide +kernel
theorem dX1_weighValues_74 : decode cX1_weighValues 74 = .ok (.aload_n 0, 1) := by decide +kernel
theorem dX1_weighValues_75 : decode cX1_weighValues 75 = .ok (.getfield 25, 3) := by decide +kernel
theorem dX1_weighValues_78 : decode cX1_weighValues 78 = .ok (.iload_n 1, 1) := by decide +kernel
theorem dX1_weighValues_79 : decode cX1_weighValues 79 = .ok (.invokevirtual 110, 3) := by decide +kernel
theorem dX1_weighValues_82 : decode cX1_weighValues 82 = .ok (.return_, 1) := by decide +kernel
theorem dX1_weighNothing_0 : decode cX1_weighNothing 0 = .ok (.aload_n 0, 1) := by decide +kernel
theorem dX1_weighNothing_1 : decode cX1_weighNothing 1 = .ok (.iconst 0, 1) := by decide +kernel
theorem dX1_weighNothing_2 : decode cX1_weighNothing 2 = .ok (.putfield 18, 3) := by decide +kernel
theorem dX1_weighNothing_5 : decode cX1_weighNothing 5 = .ok (.aload_n 0, 1) := by decide +kernel
theorem dX1_weighNothing_6 : decode cX1_weighNothing 6 = .ok (.bipush (-5), 2) := by decide +kernel
theorem dX1_weighNothing_8 : decode cX1_weighNothing 8 = .ok (.putfield 22, 3) := by decide +kernel
theorem dX1_weighNothing_11 : decode cX1_weighNothing 11 = .ok (.return_, 1) := by decide +kernel
theorem dX1_weigh_0 : decode cX1_weigh 0 = .ok (.iconst 0, 1) := by decide +kernel
theorem dX1_weigh_1 : decode cX1_weigh 1 = .ok (.istore 4, 2) := by decide +kernel
theorem dX1_weigh_3 : decode cX1_weigh 3 = .ok (.iload 4, 2) := by decide +kernel
theorem dX1_weigh_5 : decode cX1_weigh 5 = .ok (.aload_n 0, 1) := by decide +kernel
theorem dX1_weigh_6 : decode cX1_weigh 6 = .ok (.getfield 25, 3) := by decide +kernel
theorem dX1_weigh_9 : decode cX1_weigh 9 = .ok (.getfield 114, 3) := by decide +kernel
theorem dX1_weigh_12 : decode cX1_weigh 12 = .ok (.getfield 85, 3) := by decide +kernel
theorem dX1_weigh_15 : decode cX1_weigh 15 = .ok (.if_icmp .ge 38, 3) := by decide +kernel
theorem dX1_weigh_18 : decode cX1_weigh 18 = .ok (.aload_n 0, 1) := by decide +kernel
theorem dX1_weigh_19 : decode cX1_weigh 19 = .ok (.getfield 25, 3) := by decide +kernel
theorem dX1_weigh_22 : decode cX1_weigh 22 = .ok (.getfield 114, 3) := by decide +kernel
theorem dX1_weigh_25 : decode cX1_weigh 25 = .ok (.iload 4, 2) := by decide +kernel
theorem dX1_weigh_27 : decode cX1_weigh 27 = .ok (.iconst 0, 1) := by decide +kernel
theorem dX1_weigh_28 : decode cX1_weigh 28 = .ok (.invokevirtual 90, 3) := by decide +kernel
theorem dX1_weigh_31 : decode cX1_weigh 31 = .ok (.iload_n 1, 1) := by decide +kernel
theorem dX1_weigh_32 : decode cX1_weigh 32 = .ok (.if_icmp .ne 15, 3) := by decide +kernel
theorem dX1_weigh_35 : decode cX1_weigh 35 = .ok (.aload_n 0, 1) := by decide +kernel
theorem dX1_weigh_36 : decode cX1_weigh 36 = .ok (.iload 4, 2) := by decide +kernel
theorem dX1_weigh_38 : decode cX1_weigh 38 = .ok (.iload_n 1, 1) := by decide +kernel
theorem dX1_weigh_39 : decode cX1_weigh 39 = .ok (.iload_n 2, 1) := by decide +kernel
theorem dX1_weigh_40 : decode cX1_weigh 40 = .ok (.invokevirtual 117, 3) := by decide +kernel
theorem dX1_weigh_43 : decode cX1_weigh 43 = .ok (.ifCond .ne 4, 3) := by decide +kernel
theorem dX1_weigh_46 : decode cX1_weigh 46 = .ok (.return_, 1) := by decide +kernel
theorem dX1_weigh_47 : decode cX1_weigh 47 = .ok (.iinc 4 1, 3) := by decide +kernel
theorem dX1_weigh_50 : decode cX1_weigh 50 = .ok (.goto (-47), 3) := by decide +kernel
theorem dX1_weigh_53 : decode cX1_weigh 53 = .ok (.aload_n 0, 1) := by decide +kernel
theorem dX1_weigh_54 : decode cX1_weigh 54 = .ok (.getfield 18, 3) := by decide +kernel
theorem dX1_weigh_57 : decode cX1_weigh 57 = .ok (.ifCond .ne 8, 3) := by decide +kernel
theorem dX1_weigh_60 : decode cX1_weigh 60 = .ok (.aload_n 0, 1) := by decide +kernel
theorem dX1_weigh_61 : decode cX1_weigh 61 = .ok (.iload_n 3, 1) := by decide +kernel
theorem dX1_weigh_62 : decode cX1_weigh 62 = .ok (.putfield 22, 3) := by decide +kernel
theorem dX1_weigh_65 : decode cX1_weigh 65 = .ok (.aload_n 0, 1) := by decide +kernel
theorem dX1_weigh_66 : decode cX1_weigh 66 = .ok (.dup, 1) := by decide +kernel
theorem dX1_weigh_67 : decode cX1_weigh 67 = .ok (.getfield 18, 3) := by decide +kernel
theorem dX1_weigh_70 : decode cX1_weigh 70 = .ok (.iconst 1, 1) := by decide +kernel
theorem dX1_weigh_71 : decode cX1_weigh 71 = .ok (.iadd, 1) := by decide +kernel
theorem dX1_weigh_72 : decode cX1_weigh 72 = .ok (.putfield 18, 3) := by decide +kernel
theorem dX1_weigh_75 : decode cX1_weigh 75 = .ok (.return_, 1) := by decide +kernel
theorem dX1_isSo_0 : decode cX1_isSo 0 = .ok (.aload_n 0, 1) := by decide +kernel
theorem dX1_isSo_1 : decode cX1_isSo 1 = .ok (.invokevirtual 42, 3) := by decide +kernel
theorem dX1_isSo_4 : decode cX1_isSo 4 = .ok (.aload_n 0, 1) := by decide +kernel
theorem dX1_isSo_5 : decode cX1_isSo 5 = .ok (.getfield 12, 3) := by decide +kernel
theorem dX1_isSo_8 : decode cX1_isSo 8 = .ok (.getfield 49, 3) := by decide +kernel
theorem dX1_isSo_11 : decode cX1_isSo 11 = .ok (.iload_n 2, 1) := by decide +kernel
theorem dX1_isSo_12 : decode cX1_isSo 12 = .ok (.iload_n 3, 1) := by decide +kernel
theorem dX1_isSo_13 : decode cX1_isSo 13 = .ok (.iastore, 1) := by decide +kernel
theorem dX1_isSo_14 : decode cX1_isSo 14 = .ok (.aload_n 0, 1) := by decide +kernel
theorem dX1_isSo_15 : decode cX1_isSo 15 = .ok (.iload_n 2, 1) := by decide +kernel
theorem dX1_isSo_16 : decode cX1_isSo 16 = .ok (.aload_n 0, 1) := by decide +kernel
theorem dX1_isSo_17 : decode cX1_isSo 17 = .ok (.getfield 25, 3) := by decide +kernel
theorem dX1_isSo_20 : decode cX1_isSo 20 = .ok (.getfield 114, 3) := by decide +kernel
theorem dX1_isSo_23 : decode cX1_isSo 23 = .ok (.iload_n 1, 1) := by decide +kernel
theorem dX1_isSo_24 : decode cX1_isSo 24 = .ok (.iconst 2, 1) := by decide +kernel
theorem dX1_isSo_25 : decode cX1_isSo 25 = .ok (.invokevirtual 90, 3) := by decide +kernel
theorem dX1_isSo_28 : decode cX1_isSo 28 = .ok (.invokevirtual 45, 3) := by decide +kernel
theorem dX1_isSo_31 : decode cX1_isSo 31 = .ok (.aload_n 0, 1) := by decide +kernel
theorem dX1_isSo_32 : decode cX1_isSo 32 = .ok (.getfield 12, 3) := by decide +kernel
theorem dX1_isSo_35 : decode cX1_isSo 35 = .ok (.getfield 49, 3) := by decide +kernel
theorem dX1_isSo_38 : decode cX1_isSo 38 = .ok (.iload_n 2, 1) := by decide +kernel
theorem dX1_isSo_39 : decode cX1_isSo 39 = .ok (.iaload, 1) := by decide +kernel
theorem dX1_isSo_40 : decode cX1_isSo 40 = .ok (.iload_n 3, 1) := by decide +kernel
theorem dX1_isSo_41 : decode cX1_isSo 41 = .ok (.isub, 1) := by decide +kernel
theorem dX1_isSo_42 : decode cX1_isSo 42 = .ok (.aload_n 0, 1) := by decide +kernel
theorem dX1_isSo_43 : decode cX1_isSo 43 = .ok (.getfield 25, 3) := by decide +kernel
theorem dX1_isSo_46 : decode cX1_isSo 46 = .ok (.getfield 114, 3) := by decide +kernel
theorem dX1_isSo_49 : decode cX1_isSo 49 = .ok (.iload_n 1, 1) := by decide +kernel
theorem dX1_isSo_50 : decode cX1_isSo 50 = .ok (.iconst 1, 1) := by decide +kernel
theorem dX1_isSo_51 : decode cX1_isSo 51 = .ok (.invokevirtual 90, 3) := by decide +kernel
theorem dX1_isSo_54 : decode cX1_isSo 54 = .ok (.if_icmp .ne 7, 3) := by decide +kernel
theorem dX1_isSo_57 : decode cX1_isSo 57 = .ok (.iconst 1, 1) := by decide +kernel
theorem dX1_isSo_58 : decode cX1_isSo 58 = .ok (.goto 4, 3) := by decide +kernel
theorem dX1_isSo_61 : decode cX1_isSo 61 = .ok (.iconst 0, 1) := by decide +kernel
theorem dX1_isSo_62 : decode cX1_isSo 62 = .ok (.ireturn, 1) := by decide +kernel
theorem dX2_init_0 : decode cX2_init 0 = .ok (.aload_n 0, 1) := by decide +kernel
theorem dX2_init_1 : decode cX2_init 1 = .ok (.invokespecial 1, 3) := by decide +kernel
theorem dX2_init_4 : decode cX2_init 4 = .ok (.aload_n 0, 1) := by decide +kernel
theorem dX2_init_5 : decode cX2_init 5 = .ok (.bipush 10, 2) := by decide +kernel
theorem dX2_init_7 : decode cX2_init 7 = .ok (.putfield 9, 3) := by decide +kernel
theorem dX2_init_10 : decode cX2_init 10 = .ok (.aload_n 0, 1) := by decide +kernel
theorem dX2_init_11 : decode cX2_init 11 = .ok (.iconst 0, 1) := by decide +kernel
theorem dX2_init_12 : decode cX2_init 12 = .ok (.putfield 13, 3) := by decide +kernel
theorem dX2_init_15 : decode cX2_init 15 = .ok (.aload_n 0, 1) := by decide +kernel
theorem dX2_init_16 : decode cX2_init 16 = .ok (.bipush 10, 2) := by decide +kernel
theorem dX2_init_18 : decode cX2_init 18 = .ok (.newarray .int, 2) := by decide +kernel
theorem dX2_init_20 : decode cX2_init 20 = .ok (.putfield 16, 3) := by decide +kernel
theorem dX2_init_23 : decode cX2_init 23 = .ok (.aload_n 0, 1) := by decide +kernel
theorem dX2_init_24 : decode cX2_init 24 = .ok (.bipush 10, 2) := by decide +kernel
theorem dX2_init_26 : decode cX2_init 26 = .ok (.newarray .int, 2) := by decide +kernel
theorem dX2_init_28 : decode cX2_init 28 = .ok (.putfield 20, 3) := by decide +kernel
theorem dX2_init_31 : decode cX2_init 31 = .ok (.aload_n 0, 1) := by decide +kernel
theorem dX2_init_32 : decode cX2_init 32 = .ok (.iconst 0, 1) := by decide +kernel
theorem dX2_init_33 : decode cX2_init 33 = .ok (.putfield 23, 3) := by decide +kernel
theorem dX2_init_36 : decode cX2_init 36 = .ok (.aload_n 0, 1) := by decide +kernel
theorem dX2_init_37 : decode cX2_init 37 = .ok (.bipush 100, 2) := by decide +kernel
theorem dX2_init_39 : decode cX2_init 39 = .ok (.newarray .int, 2) := by decide +kernel
theorem dX2_init_41 : decode cX2_init 41 = .ok (.putfield 26, 3) := by decide +kernel
theorem dX2_init_44 : decode cX2_init 44 = .ok (.return_, 1) := by decide +kernel
theorem dX2_clear_0 : decode cX2_clear 0 = .ok (.aload_n 0, 1) := by decide +kernel
theorem dX2_clear_1 : decode cX2_clear 1 = .ok (.bipush 10, 2) := by decide +kernel
theorem dX2_clear_3 : decode cX2_clear 3 = .ok (.putfield 9, 3) := by decide +kernel
theorem dX2_clear_6 : decode cX2_clear 6 = .ok (.aload_n 0, 1) := by decide +kernel
theorem dX2_clear_7 : decode cX2_clear 7 = .ok (.iconst 0, 1) := by decide +kernel
theorem dX2_clear_8 : decode cX2_clear 8 = .ok (.putfield 13, 3) := by decide +kernel
theorem dX2_clear_11 : decode cX2_clear 11 = .ok (.aload_n 0, 1) := by decide +kernel
theorem dX2_clear_12 : decode cX2_clear 12 = .ok (.iconst 0, 1) := by decide +kernel
theorem dX2_clear_13 : decode cX2_clear 13 = .ok (.putfield 23, 3) := by decide +kernel
theorem dX2_clear_16 : decode cX2_clear 16 = .ok (.return_, 1) := by decide +kernel
theorem dX2_addStep_0 : decode cX2_addStep 0 = .ok (.aload_n 0, 1) := by decide +kernel
theorem dX2_addStep_1 : decode cX2_addStep 1 = .ok (.getfield 23, 3) := by decide +kernel
theorem dX2_addStep_4 : decode cX2_addStep 4 = .ok (.bipush 100, 2) := by decide +kernel
theorem dX2_addStep_6 : decode cX2_addStep 6 = .ok (.if_icmp .ge 23, 3) := by decide +kernel
theorem dX2_addStep_9 : decode cX2_addStep 9 = .ok (.aload_n 0, 1) := by decide +kernel
theorem dX2_addStep_10 : decode cX2_addStep 10 = .ok (.getfield 26, 3) := by decide +kernel
theorem dX2_addStep_13 : decode cX2_addStep 13 = .ok (.aload_n 0, 1) := by decide +kernel
theorem dX2_addStep_14 : decode cX2_addStep 14 = .ok (.getfield 23, 3) := by decide +kernel
theorem dX2_addStep_17 : decode cX2_addStep 17 = .ok (.iload_n 1, 1) := by decide +kernel
theorem dX2_addStep_18 : decode cX2_addStep 18 = .ok (.iastore, 1) := by decide +kernel
theorem dX2_addStep_19 : decode cX2_addStep 19 = .ok (.aload_n 0, 1) := by decide +kernel
theorem dX2_addStep_20 : decode cX2_addStep 20 = .ok (.dup, 1) := by decide +kernel
theorem dX2_addStep_21 : decode cX2_addStep 21 = .ok (.getfield 23, 3) := by decide +kernel
theorem dX2_addStep_24 : decode cX2_addStep 24 = .ok (.iconst 1, 1) := by decide +kernel
theorem dX2_addStep_25 : decode cX2_addStep 25 = .ok (.iadd, 1) := by decide +kernel
theorem dX2_addStep_26 : decode cX2_addStep 26 = .ok (.putfield 23, 3) := by decide +kernel
theorem dX2_addStep_29 : decode cX2_addStep 29 = .ok (.return_, 1) := by decide +kernel
theorem dX2_addClause_0 : decode cX2_addClause 0 = .ok (.aload_n 0, 1) := by decide +kernel
theorem dX2_addClause_1 : decode cX2_addClause 1 = .ok (.getfield 13, 3) := by decide +kernel
theorem dX2_addClause_4 : decode cX2_addClause 4 = .ok (.bipush 10, 2) := by decide +kernel
theorem dX2_addClause_6 : decode cX2_addClause 6 = .ok (.if_icmp .ge 36, 3) := by decide +kernel
theorem dX2_addClause_9 : decode cX2_addClause 9 = .ok (.aload_n 0, 1) := by decide +kernel
theorem dX2_addClause_10 : decode cX2_addClause 10 = .ok (.getfield 16, 3) := by decide +kernel
theorem dX2_addClause_13 : decode cX2_addClause 13 = .ok (.aload_n 0, 1) := by decide +kernel
theorem dX2_addClause_14 : decode cX2_addClause 14 = .ok (.getfield 13, 3) := by decide +kernel
theorem dX2_addClause_17 : decode cX2_addClause 17 = .ok (.iload_n 1, 1) := by decide +kernel
theorem dX2_addClause_18 : decode cX2_addClause 18 = .ok (.iastore, 1) := by decide +kernel
theorem dX2_addClause_19 : decode cX2_addClause 19 = .ok (.aload_n 0, 1) := by decide +kernel
theorem dX2_addClause_20 : decode cX2_addClause 20 = .ok (.getfield 20, 3) := by decide +kernel
theorem dX2_addClause_23 : decode cX2_addClause 23 = .ok (.aload_n 0, 1) := by decide +kernel
theorem dX2_addClause_24 : decode cX2_addClause 24 = .ok (.getfield 13, 3) := by decide +kernel
theorem dX2_addClause_27 : decode cX2_addClause 27 = .ok (.aload_n 0, 1) := by decide +kernel
theorem dX2_addClause_28 : decode cX2_addClause 28 = .ok (.getfield 23, 3) := by decide +kernel
theorem dX2_addClause_31 : decode cX2_addClause 31 = .ok (.iastore, 1) := by decide +kernel
theorem dX2_addClause_32 : decode cX2_addClause 32 = .ok (.aload_n 0, 1) := by decide +kernel
theorem dX2_addClause_33 : decode cX2_addClause 33 = .ok (.dup, 1) := by decide +kernel
theorem dX2_addClause_34 : decode cX2_addClause 34 = .ok (.getfield 13, 3) := by decide +kernel
theorem dX2_addClause_37 : decode cX2_addClause 37 = .ok (.iconst 1, 1) := by decide +kernel
theorem dX2_addClause_38 : decode cX2_addClause 38 = .ok (.iadd, 1) := by decide +kernel
theorem dX2_addClause_39 : decode cX2_addClause 39 = .ok (.putfield 13, 3) := by decide +kernel
theorem dX2_addClause_42 : decode cX2_addClause 42 = .ok (.return_, 1) := by decide +kernel
theorem dX2_newsBy_0 : decode cX2_newsBy 0 = .ok (.iconst 1, 1) := by decide +kernel
theorem dX2_newsBy_1 : decode cX2_newsBy 1 = .ok (.istore_n 2, 1) := by decide +kernel
theorem dX2_newsBy_2 : decode cX2_newsBy 2 = .ok (.iconst 0, 1) := by decide +kernel
theorem dX2_newsBy_3 : decode cX2_newsBy 3 = .ok (.istore_n 3, 1) := by decide +kernel
theorem dX2_newsBy_4 : decode cX2_newsBy 4 = .ok (.iconst 0, 1) := by decide +kernel
theorem dX2_newsBy_5 : decode cX2_newsBy 5 = .ok (.istore 4, 2) := by decide +kernel
theorem dX2_newsBy_7 : decode cX2_newsBy 7 = .ok (.iload 4, 2) := by decide +kernel
theorem dX2_newsBy_9 : decode cX2_newsBy 9 = .ok (.aload_n 0, 1) := by decide +kernel
theorem dX2_newsBy_10 : decode cX2_newsBy 10 = .ok (.getfield 13, 3) := by decide +kernel
theorem dX2_newsBy_13 : decode cX2_newsBy 13 = .ok (.if_icmp .ge 43, 3) := by decide +kernel
theorem dX2_newsBy_16 : decode cX2_newsBy 16 = .ok (.aload_n 0, 1) := by decide +kernel
theorem dX2_newsBy_17 : decode cX2_newsBy 17 = .ok (.iload_n 3, 1) := by decide +kernel
theorem dX2_newsBy_18 : decode cX2_newsBy 18 = .ok (.aload_n 0, 1) := by decide +kernel
theorem dX2_newsBy_19 : decode cX2_newsBy 19 = .ok (.getfield 20, 3) := by decide +kernel
theorem dX2_newsBy_22 : decode cX2_newsBy 22 = .ok (.iload 4, 2) := by decide +kernel
theorem dX2_newsBy_24 : decode cX2_newsBy 24 = .ok (.iaload, 1) := by decide +kernel
theorem dX2_newsBy_25 : decode cX2_newsBy 25 = .ok (.aload_n 1, 1) := by decide +kernel
theorem dX2_newsBy_26 : decode cX2_newsBy 26 = .ok (.invokevirtual 29, 3) := by decide +kernel
theorem dX2_newsBy_29 : decode cX2_newsBy 29 = .ok (.ifCond .eq 13, 3) := by decide +kernel
theorem dX2_newsBy_32 : decode cX2_newsBy 32 = .ok (.iload_n 2, 1) := by decide +kernel
theorem dX2_newsBy_33 : decode cX2_newsBy 33 = .ok (.aload_n 0, 1) := by decide +kernel
theorem dX2_newsBy_34 : decode cX2_newsBy 34 = .ok (.getfield 16, 3) := by decide +kernel
theorem dX2_newsBy_37 : decode cX2_newsBy 37 = .ok (.iload 4, 2) := by decide +kernel
theorem dX2_newsBy_39 : decode cX2_newsBy 39 = .ok (.iaload, 1) := by decide +kernel
theorem dX2_newsBy_40 : decode cX2_newsBy 40 = .ok (.iadd, 1) := by decide +kernel
theorem dX2_newsBy_41 : decode cX2_newsBy 41 = .ok (.istore_n 2, 1) := by decide +kernel
theorem dX2_newsBy_42 : decode cX2_newsBy 42 = .ok (.aload_n 0, 1) := by decide +kernel
theorem dX2_newsBy_43 : decode cX2_newsBy 43 = .ok (.getfield 20, 3) := by decide +kernel
theorem dX2_newsBy_46 : decode cX2_newsBy 46 = .ok (.iload 4, 2) := by decide +kernel
theorem dX2_newsBy_48 : decode cX2_newsBy 48 = .ok (.iaload, 1) := by decide +kernel
theorem dX2_newsBy_49 : decode cX2_newsBy 49 = .ok (.istore_n 3, 1) := by decide +kernel
theorem dX2_newsBy_50 : decode cX2_newsBy 50 = .ok (.iinc 4 1, 3) := by decide +kernel
theorem dX2_newsBy_53 : decode cX2_newsBy 53 = .ok (.goto (-46), 3) := by decide +kernel
theorem dX2_newsBy_56 : decode cX2_newsBy 56 = .ok (.iconst 0, 1) := by decide +kernel
theorem dX2_newsBy_57 : decode cX2_newsBy 57 = .ok (.iload_n 2, 1) := by decide +kernel
theorem dX2_newsBy_58 : decode cX2_newsBy 58 = .ok (.invokestatic 33, 3) := by decide +kernel
theorem dX2_newsBy_61 : decode cX2_newsBy 61 = .ok (.ireturn, 1) := by decide +kernel
theorem dX2_isTrue_0 : decode cX2_isTrue 0 = .ok (.iconst 0, 1) := by decide +kernel
theorem dX2_isTrue_1 : decode cX2_isTrue 1 = .ok (.istore 4, 2) := by decide +kernel
theorem dX2_isTrue_3 : decode cX2_isTrue 3 = .ok (.iload_n 1, 1) := by decide +kernel
theorem dX2_isTrue_4 : decode cX2_isTrue 4 = .ok (.istore 5, 2) := by decide +kernel
theorem dX2_isTrue_6 : decode cX2_isTrue 6 = .ok (.iload 5, 2) := by decide +kernel
theorem dX2_isTrue_8 : decode cX2_isTrue 8 = .ok (.iload_n 2, 1) := by decide +kernel
theorem dX2_isTrue_9 : decode cX2_isTrue 9 = .ok (.if_icmp .ge 97, 3) := by decide +kernel
theorem dX2_isTrue_12 : decode cX2_isTrue 12 = .ok (.aload_n 0, 1) := by decide +kernel
theorem dX2_isTrue_13 : decode cX2_isTrue 13 = .ok (.getfield 26, 3) := by decide +kernel
theorem dX2_isTrue_16 : decode cX2_isTrue 16 = .ok (.iload 5, 2) := by decide +kernel
theorem dX2_isTrue_18 : decode cX2_isTrue 18 = .ok (.iaload, 1) := by decide +kernel
theorem dX2_isTrue_19 : decode cX2_isTrue 19 = .ok (.istore 6, 2) := by decide +kernel
theorem dX2_isTrue_21 : decode cX2_isTrue 21 = .ok (.iload 6, 2) := by decide +kernel
theorem dX2_isTrue_23 : decode cX2_isTrue 23 = .ok (.iconst (-1), 1) := by decide +kernel
theorem dX2_isTrue_24 : decode cX2_isTrue 24 = .ok (.if_icmp .ne 12, 3) := by decide +kernel
theorem dX2_isTrue_27 : decode cX2_isTrue 27 = .ok (.iload 4, 2) := by decide +kernel
theorem dX2_isTrue_29 : decode cX2_isTrue 29 = .ok (.iconst 1, 1) := by decide +kernel
theorem dX2_isTrue_30 : decode cX2_isTrue 30 = .ok (.ixor, 1) := by decide +kernel
theorem dX2_isTrue_31 : decode cX2_isTrue 31 = .ok (.istore 4, 2) := by decide +kernel
theorem dX2_isTrue_33 : decode cX2_isTrue 33 = .ok (.goto 67, 3) := by decide +kernel
theorem dX2_isTrue_36 : decode cX2_isTrue 36 = .ok (.iload 6, 2) := by decide +kernel
theorem dX2_isTrue_38 : decode cX2_isTrue 38 = .ok (.bipush (-2), 2) := by decide +kernel
theorem dX2_isTrue_40 : decode cX2_isTrue 40 = .ok (.if_icmp .ne 18, 3) := by decide +kernel
theorem dX2_isTrue_43 : decode cX2_isTrue 43 = .ok (.iload 4, 2) := by decide +kernel
theorem dX2_isTrue_45 : decode cX2_isTrue 45 = .ok (.iconst 1, 1) := by decide +kernel
theorem dX2_isTrue_46 : decode cX2_isTrue 46 = .ok (.ishr, 1) := by decide +kernel
theorem dX2_isTrue_47 : decode cX2_isTrue 47 = .ok (.iload 4, 2) := by decide +kernel
theorem dX2_isTrue_49 : decode cX2_isTrue 49 = .ok (.bipush (-2), 2) := by decide +kernel
theorem dX2_isTrue_51 : decode cX2_isTrue 51 = .ok (.ior, 1) := by decide +kernel
theorem dX2_isTrue_52 : decode cX2_isTrue 52 = .ok (.iand, 1) := by decide +kernel
theorem dX2_isTrue_53 : decode cX2_isTrue 53 = .ok (.istore 4, 2) := by decide +kernel
theorem dX2_isTrue_55 : decode cX2_isTrue 55 = .ok (.goto 45, 3) := by decide +kernel
theorem dX2_isTrue_58 : decode cX2_isTrue 58 = .ok (.iload 6, 2) := by decide +kernel
theorem dX2_isTrue_60 : decode cX2_isTrue 60 = .ok (.bipush (-3), 2) := by decide +kernel
theorem dX2_isTrue_62 : decode cX2_isTrue 62 = .ok (.if_icmp .ne 17, 3) := by decide +kernel
theorem dX2_isTrue_65 : decode cX2_isTrue 65 = .ok (.iload 4, 2) := by decide +kernel
theorem dX2_isTrue_67 : decode cX2_isTrue 67 = .ok (.iconst 1, 1) := by decide +kernel
theorem dX2_isTrue_68 : decode cX2_isTrue 68 = .ok (.ishr, 1) := by decide +kernel
theorem dX2_isTrue_69 : decode cX2_isTrue 69 = .ok (.iload 4, 2) := by decide +kernel
theorem dX2_isTrue_71 : decode cX2_isTrue 71 = .ok (.iconst 1, 1) := by decide +kernel
theorem dX2_isTrue_72 : decode cX2_isTrue 72 = .ok (.iand, 1) := by decide +kernel
theorem dX2_isTrue_73 : decode cX2_isTrue 73 = .ok (.ior, 1) := by decide +kernel
theorem dX2_isTrue_74 : decode cX2_isTrue 74 = .ok (.istore 4, 2) := by decide +kernel
theorem dX2_isTrue_76 : decode cX2_isTrue 76 = .ok (.goto 24, 3) := by decide +kernel
theorem dX2_isTrue_79 : decode cX2_isTrue 79 = .ok (.iload 4, 2) := by decide +kernel
theorem dX2_isTrue_81 : decode cX2_isTrue 81 = .ok (.iconst 1, 1) := by decide +kernel
theorem dX2_isTrue_82 : decode cX2_isTrue 82 = .ok (.ishl, 1) := by decide +kernel
theorem dX2_isTrue_83 : decode cX2_isTrue 83 = .ok (.iload 6, 2) := by decide +kernel
theorem dX2_isTrue_85 : decode cX2_isTrue 85 = .ok (.aload_n 3, 1) := by decide +kernel
theorem dX2_isTrue_86 : decode cX2_isTrue 86 = .ok (.invokestatic 39, 3) := by decide +kernel
theorem dX2_isTrue_89 : decode cX2_isTrue 89 = .ok (.ifCond .eq 7, 3) := by decide +kernel
theorem dX2_isTrue_92 : decode cX2_isTrue 92 = .ok (.iconst 1, 1) := by decide +kernel
theorem dX2_isTrue_93 : decode cX2_isTrue 93 = .ok (.goto 4, 3) := by decide +kernel
theorem dX2_isTrue_96 : decode cX2_isTrue 96 = .ok (.iconst 0, 1) := by decide +kernel
theorem dX2_isTrue_97 : decode cX2_isTrue 97 = .ok (.ior, 1) := by decide +kernel
theorem dX2_isTrue_98 : decode cX2_isTrue 98 = .ok (.istore 4, 2) := by decide +kernel
theorem dX2_isTrue_100 : decode cX2_isTrue 100 = .ok (.iinc 5 1, 3) := by decide +kernel
theorem dX2_isTrue_103 : decode cX2_isTrue 103 = .ok (.goto (-97), 3) := by decide +kernel
theorem dX2_isTrue_106 : decode cX2_isTrue 106 = .ok (.iload 4, 2) := by decide +kernel
theorem dX2_isTrue_108 : decode cX2_isTrue 108 = .ok (.iconst 1, 1) := by decide +kernel
theorem dX2_isTrue_109 : decode cX2_isTrue 109 = .ok (.iand, 1) := by decide +kernel
theorem dX2_isTrue_110 : decode cX2_isTrue 110 = .ok (.iconst 1, 1) := by decide +kernel
theorem dX2_isTrue_111 : decode cX2_isTrue 111 = .ok (.if_icmp .ne 7, 3) := by decide +kernel
theorem dX2_isTrue_114 : decode cX2_isTrue 114 = .ok (.iconst 1, 1) := by decide +kernel
theorem dX2_isTrue_115 : decode cX2_isTrue 115 = .ok (.goto 4, 3) := by decide +kernel
theorem dX2_isTrue_118 : decode cX2_isTrue 118 = .ok (.iconst 0, 1) := by decide +kernel
theorem dX2_isTrue_119 : decode cX2_isTrue 119 = .ok (.ireturn, 1) := by decide +kernel
theorem dX2_testStep_0 : decode cX2_testStep 0 = .ok (.iload_n 0, 1) := by decide +kernel
theorem dX2_testStep_1 : decode cX2_testStep 1 = .ok (.sipush 300, 3) := by decide +kernel
theorem dX2_testStep_4 : decode cX2_testStep 4 = .ok (.imul, 1) := by decide +kernel
theorem dX2_testStep_5 : decode cX2_testStep 5 = .ok (.iload_n 1, 1) := by decide +kernel
theorem dX2_testStep_6 : decode cX2_testStep 6 = .ok (.bipush 100, 2) := by decide +kernel
theorem dX2_testStep_8 : decode cX2_testStep 8 = .ok (.imul, 1) := by decide +kernel
theorem dX2_testStep_9 : decode cX2_testStep 9 = .ok (.iadd, 1) := by decide +kernel
theorem dX2_testStep_10 : decode cX2_testStep 10 = .ok (.iload_n 2, 1) := by decide +kernel
theorem dX2_testStep_11 : decode cX2_testStep 11 = .ok (.iadd, 1) := by decide +kernel
theorem dX2_testStep_12 : decode cX2_testStep 12 = .ok (.ireturn, 1) := by decide +kernel
theorem dX2_passes_0 : decode cX2_passes 0 = .ok (.aload_n 1, 1) := by decide +kernel
theorem dX2_passes_1 : decode cX2_passes 1 = .ok (.iload_n 0, 1) := by decide +kernel
theorem dX2_passes_2 : decode cX2_passes 2 = .ok (.sipush 300, 3) := by decide +kernel
theorem dX2_passes_5 : decode cX2_passes 5 = .ok (.idiv, 1) := by decide +kernel
theorem dX2_passes_6 : decode cX2_passes 6 = .ok (.iaload, 1) := by decide +kernel
theorem dX2_passes_7 : decode cX2_passes 7 = .ok (.istore_n 2, 1) := by decide +kernel
theorem dX2_passes_8 : decode cX2_passes 8 = .ok (.iload_n 0, 1) := by decide +kernel
theorem dX2_passes_9 : decode cX2_passes 9 = .ok (.bipush 100, 2) := by decide +kernel
theorem dX2_passes_11 : decode cX2_passes 11 = .ok (.irem, 1) := by decide +kernel
theorem dX2_passes_12 : decode cX2_passes 12 = .ok (.istore_n 3, 1) := by decide +kernel
theorem dX2_passes_13 : decode cX2_passes 13 = .ok (.iload_n 0, 1) := by decide +kernel
theorem dX2_passes_14 : decode cX2_passes 14 = .ok (.bipush 100, 2) := by decide +kernel
theorem dX2_passes_16 : decode cX2_passes 16 = .ok (.idiv, 1) := by decide +kernel
theorem dX2_passes_17 : decode cX2_passes 17 = .ok (.iconst 3, 1) := by decide +kernel
theorem dX2_passes_18 : decode cX2_passes 18 = .ok (.irem, 1) := by decide +kernel
theorem dX2_passes_19 : decode cX2_passes 19 = .ok (.lookupswitch 47 #[(0, 25), (1, 36)], 25) := by decide +kernel
theorem dX2_passes_44 : decode cX2_passes 44 = .ok (.iload_n 2, 1) := by decide +kernel
theorem dX2_passes_45 : decode cX2_passes 45 = .ok (.iload_n 3, 1) := by decide +kernel
theorem dX2_passes_46 : decode cX2_passes 46 = .ok (.if_icmp .ge 7, 3) := by decide +kernel
theorem dX2_passes_49 : decode cX2_passes 49 = .ok (.iconst 1, 1) := by decide +kernel
theorem dX2_passes_50 : decode cX2_passes 50 = .ok (.goto 4, 3) := by decide +kernel
theorem dX2_passes_53 : decode cX2_passes 53 = .ok (.iconst 0, 1) := by decide +kernel
theorem dX2_passes_54 : decode cX2_passes 54 = .ok (.ireturn, 1) := by decide +kernel
theorem dX2_passes_55 : decode cX2_passes 55 = .ok (.iload_n 2, 1) := by decide +kernel
theorem dX2_passes_56 : decode cX2_passes 56 = .ok (.iload_n 3, 1) := by decide +kernel
theorem dX2_passes_57 : decode cX2_passes 57 = .ok (.if_icmp .ne 7, 3) := by decide +kernel
theorem dX2_passes_60 : decode cX2_passes 60 = .ok (.iconst 1, 1) := by decide +kernel
theorem dX2_passes_61 : decode cX2_passes 61 = .ok (.goto 4, 3) := by decide +kernel
theorem dX2_passes_64 : decode cX2_passes 64 = .ok (.iconst 0, 1) := by decide +kernel
theorem dX2_passes_65 : decode cX2_passes 65 = .ok (.ireturn, 1) := by decide +kernel
theorem dX2_passes_66 : decode cX2_passes 66 = .ok (.iload_n 2, 1) := by decide +kernel
theorem dX2_passes_67 : decode cX2_passes 67 = .ok (.iload_n 3, 1) := by decide +kernel
theorem dX2_passes_68 : decode cX2_passes 68 = .ok (.if_icmp .le 7, 3) := by decide +kernel
theorem dX2_passes_71 : decode cX2_passes 71 = .ok (.iconst 1, 1) := by decide +kernel
theorem dX2_passes_72 : decode cX2_passes 72 = .ok (.goto 4, 3) := by decide +kernel
theorem dX2_passes_75 : decode cX2_passes 75 = .ok (.iconst 0, 1) := by decide +kernel
theorem dX2_passes_76 : decode cX2_passes 76 = .ok (.ireturn, 1) := by decide +kernel
theorem dX3_init_0 : decode cX3_init 0 = .ok (.aload_n 0, 1) := by decide +kernel
theorem dX3_init_1 : decode cX3_init 1 = .ok (.invokespecial 3, 3) := by decide +kernel
theorem dX3_init_4 : decode cX3_init 4 = .ok (.aload_n 0, 1) := by decide +kernel
theorem dX3_init_5 : decode cX3_init 5 = .ok (.bipush 100, 2) := by decide +kernel
theorem dX3_init_7 : decode cX3_init 7 = .ok (.putfield 9, 3) := by decide +kernel
theorem dX3_init_10 : decode cX3_init 10 = .ok (.aload_n 0, 1) := by decide +kernel
theorem dX3_init_11 : decode cX3_init 11 = .ok (.bipush 6, 2) := by decide +kernel
theorem dX3_init_13 : decode cX3_init 13 = .ok (.newarray .int, 2) := by decide +kernel
theorem dX3_init_15 : decode cX3_init 15 = .ok (.putfield 15, 3) := by decide +kernel
theorem dX3_init_18 : decode cX3_init 18 = .ok (.aload_n 0, 1) := by decide +kernel
theorem dX3_init_19 : decode cX3_init 19 = .ok (.bipush 6, 2) := by decide +kernel
theorem dX3_init_21 : decode cX3_init 21 = .ok (.newarray .boolean, 2) := by decide +kernel
theorem dX3_init_23 : decode cX3_init 23 = .ok (.putfield 19, 3) := by decide +kernel
theorem dX3_init_26 : decode cX3_init 26 = .ok (.return_, 1) := by decide +kernel
theorem dX3_copyFrom_0 : decode cX3_copyFrom 0 = .ok (.aload_n 0, 1) := by decide +kernel
theorem dX3_copyFrom_1 : decode cX3_copyFrom 1 = .ok (.aload_n 1, 1) := by decide +kernel
theorem dX3_copyFrom_2 : decode cX3_copyFrom 2 = .ok (.getfield 9, 3) := by decide +kernel
theorem dX3_copyFrom_5 : decode cX3_copyFrom 5 = .ok (.putfield 9, 3) := by decide +kernel
theorem dX3_copyFrom_8 : decode cX3_copyFrom 8 = .ok (.iconst 0, 1) := by decide +kernel
theorem dX3_copyFrom_9 : decode cX3_copyFrom 9 = .ok (.istore_n 2, 1) := by decide +kernel
theorem dX3_copyFrom_10 : decode cX3_copyFrom 10 = .ok (.iload_n 2, 1) := by decide +kernel
theorem dX3_copyFrom_11 : decode cX3_copyFrom 11 = .ok (.bipush 6, 2) := by decide +kernel
theorem dX3_copyFrom_13 : decode cX3_copyFrom 13 = .ok (.if_icmp .ge 33, 3) := by decide +kernel
theorem dX3_copyFrom_16 : decode cX3_copyFrom 16 = .ok (.aload_n 0, 1) := by decide +kernel
theorem dX3_copyFrom_17 : decode cX3_copyFrom 17 = .ok (.getfield 15, 3) := by decide +kernel
theorem dX3_copyFrom_20 : decode cX3_copyFrom 20 = .ok (.iload_n 2, 1) := by decide +kernel
theorem dX3_copyFrom_21 : decode cX3_copyFrom 21 = .ok (.aload_n 1, 1) := by decide +kernel
theorem dX3_copyFrom_22 : decode cX3_copyFrom 22 = .ok (.getfield 15, 3) := by decide +kernel
theorem dX3_copyFrom_25 : decode cX3_copyFrom 25 = .ok (.iload_n 2, 1) := by decide +kernel
theorem dX3_copyFrom_26 : decode cX3_copyFrom 26 = .ok (.iaload, 1) := by decide +kernel
theorem dX3_copyFrom_27 : decode cX3_copyFrom 27 = .ok (.iastore, 1) := by decide +kernel
theorem dX3_copyFrom_28 : decode cX3_copyFrom 28 = .ok (.aload_n 0, 1) := by decide +kernel
theorem dX3_copyFrom_29 : decode cX3_copyFrom 29 = .ok (.getfield 19, 3) := by decide +kernel
theorem dX3_copyFrom_32 : decode cX3_copyFrom 32 = .ok (.iload_n 2, 1) := by decide +kernel
theorem dX3_copyFrom_33 : decode cX3_copyFrom 33 = .ok (.aload_n 1, 1) := by decide +kernel
theorem dX3_copyFrom_34 : decode cX3_copyFrom 34 = .ok (.getfield 19, 3) := by decide +kernel
theorem dX3_copyFrom_37 : decode cX3_copyFrom 37 = .ok (.iload_n 2, 1) := by decide +kernel
theorem dX3_copyFrom_38 : decode cX3_copyFrom 38 = .ok (.baload, 1) := by decide +kernel
theorem dX3_copyFrom_39 : decode cX3_copyFrom 39 = .ok (.bastore, 1) := by decide +kernel
theorem dX3_copyFrom_40 : decode cX3_copyFrom 40 = .ok (.iinc 2 1, 3) := by decide +kernel
theorem dX3_copyFrom_43 : decode cX3_copyFrom 43 = .ok (.goto (-33), 3) := by decide +kernel
theorem dX3_copyFrom_46 : decode cX3_copyFrom 46 = .ok (.return_, 1) := by decide +kernel
theorem dX3_isUp_0 : decode cX3_isUp 0 = .ok (.aload_n 0, 1) := by decide +kernel
theorem dX3_isUp_1 : decode cX3_isUp 1 = .ok (.getfield 15, 3) := by decide +kernel
theorem dX3_isUp_4 : decode cX3_isUp 4 = .ok (.iload_n 1, 1) := by decide +kernel
theorem dX3_isUp_5 : decode cX3_isUp 5 = .ok (.iaload, 1) := by decide +kernel
theorem dX3_isUp_6 : decode cX3_isUp 6 = .ok (.aload_n 0, 1) := by decide +kernel
theorem dX3_isUp_7 : decode cX3_isUp 7 = .ok (.getfield 9, 3) := by decide +kernel
theorem dX3_isUp_10 : decode cX3_isUp 10 = .ok (.if_icmp .ne 7, 3) := by decide +kernel
theorem dX3_isUp_13 : decode cX3_isUp 13 = .ok (.iconst 1, 1) := by decide +kernel
theorem dX3_isUp_14 : decode cX3_isUp 14 = .ok (.goto 4, 3) := by decide +kernel
theorem dX3_isUp_17 : decode cX3_isUp 17 = .ok (.iconst 0, 1) := by decide +kernel
theorem dX3_isUp_18 : decode cX3_isUp 18 = .ok (.ireturn, 1) := by decide +kernel
theorem dX4_init_0 : decode cX4_init 0 = .ok (.aload_n 0, 1) := by decide +kernel
theorem dX4_init_1 : decode cX4_init 1 = .ok (.invokespecial 3, 3) := by decide +kernel
theorem dX4_init_4 : decode cX4_init 4 = .ok (.aload_n 0, 1) := by decide +kernel
theorem dX4_init_5 : decode cX4_init 5 = .ok (.bipush 7, 2) := by decide +kernel
theorem dX4_init_7 : decode cX4_init 7 = .ok (.anewarray 9, 3) := by decide +kernel
theorem dX4_init_10 : decode cX4_init 10 = .ok (.putfield 11, 3) := by decide +kernel
theorem dX4_init_13 : decode cX4_init 13 = .ok (.aload_n 0, 1) := by decide +kernel
theorem dX4_init_14 : decode cX4_init 14 = .ok (.bipush 6, 2) := by decide +kernel
theorem dX4_init_16 : decode cX4_init 16 = .ok (.newarray .int, 2) := by decide +kernel
theorem dX4_init_18 : decode cX4_init 18 = .ok (.putfield 17, 3) := by decide +kernel
theorem dX4_init_21 : decode cX4_init 21 = .ok (.aload_n 0, 1) := by decide +kernel
theorem dX4_init_22 : decode cX4_init 22 = .ok (.bipush 6, 2) := by decide +kernel
theorem dX4_init_24 : decode cX4_init 24 = .ok (.newarray .int, 2) := by decide +kernel
theorem dX4_init_26 : decode cX4_init 26 = .ok (.putfield 21, 3) := by decide +kernel
theorem dX4_init_29 : decode cX4_init 29 = .ok (.aload_n 0, 1) := by decide +kernel
theorem dX4_init_30 : decode cX4_init 30 = .ok (.bipush (-5), 2) := by decide +kernel
theorem dX4_init_32 : decode cX4_init 32 = .ok (.putfield 24, 3) := by decide +kernel
theorem dX4_init_35 : decode cX4_init 35 = .ok (.aload_n 0, 1) := by decide +kernel
theorem dX4_init_36 : decode cX4_init 36 = .ok (.aload_n 1, 1) := by decide +kernel
theorem dX4_init_37 : decode cX4_init 37 = .ok (.putfield 28, 3) := by decide +kernel
theorem dX4_init_40 : decode cX4_init 40 = .ok (.iconst 0, 1) := by decide +kernel
theorem dX4_init_41 : decode cX4_init 41 = .ok (.istore_n 2, 1) := by decide +kernel
theorem dX4_init_42 : decode cX4_init 42 = .ok (.iload_n 2, 1) := by decide +kernel
theorem dX4_init_43 : decode cX4_init 43 = .ok (.aload_n 0, 1) := by decide +kernel
theorem dX4_init_44 : decode cX4_init 44 = .ok (.getfield 11, 3) := by decide +kernel
theorem dX4_init_47 : decode cX4_init 47 = .ok (.arraylength, 1) := by decide +kernel
theorem dX4_init_48 : decode cX4_init 48 = .ok (.if_icmp .ge 22, 3) := by decide +kernel
theorem dX4_init_51 : decode cX4_init 51 = .ok (.aload_n 0, 1) := by decide +kernel
theorem dX4_init_52 : decode cX4_init 52 = .ok (.getfield 11, 3) := by decide +kernel
theorem dX4_init_55 : decode cX4_init 55 = .ok (.iload_n 2, 1) := by decide +kernel
theorem dX4_init_56 : decode cX4_init 56 = .ok (.new 9, 3) := by decide +kernel
theorem dX4_init_59 : decode cX4_init 59 = .ok (.dup, 1) := by decide +kernel
theorem dX4_init_60 : decode cX4_init 60 = .ok (.invokespecial 32, 3) := by decide +kernel
theorem dX4_init_63 : decode cX4_init 63 = .ok (.aastore, 1) := by decide +kernel
theorem dX4_init_64 : decode cX4_init 64 = .ok (.iinc 2 1, 3) := by decide +kernel
theorem dX4_init_67 : decode cX4_init 67 = .ok (.goto (-25), 3) := by decide +kernel
theorem dX4_init_70 : decode cX4_init 70 = .ok (.return_, 1) := by decide +kernel
theorem dX4_findOrder_0 : decode cX4_findOrder 0 = .ok (.aload_n 0, 1) := by decide +kernel
theorem dX4_findOrder_1 : decode cX4_findOrder 1 = .ok (.bipush (-5), 2) := by decide +kernel
theorem dX4_findOrder_3 : decode cX4_findOrder 3 = .ok (.putfield 24, 3) := by decide +kernel
theorem dX4_findOrder_6 : decode cX4_findOrder 6 = .ok (.aload_n 0, 1) := by decide +kernel
theorem dX4_findOrder_7 : decode cX4_findOrder 7 = .ok (.getfield 11, 3) := by decide +kernel
theorem dX4_findOrder_10 : decode cX4_findOrder 10 = .ok (.iconst 0, 1) := by decide +kernel
theorem dX4_findOrder_11 : decode cX4_findOrder 11 = .ok (.aaload, 1) := by decide +kernel
theorem dX4_findOrder_12 : decode cX4_findOrder 12 = .ok (.aload_n 0, 1) := by decide +kernel
theorem dX4_findOrder_13 : decode cX4_findOrder 13 = .ok (.getfield 28, 3) := by decide +kernel
theorem dX4_findOrder_16 : decode cX4_findOrder 16 = .ok (.getfield 33, 3) := by decide +kernel
theorem dX4_findOrder_19 : decode cX4_findOrder 19 = .ok (.invokevirtual 39, 3) := by decide +kernel
theorem dX4_findOrder_22 : decode cX4_findOrder 22 = .ok (.aload_n 0, 1) := by decide +kernel
theorem dX4_findOrder_23 : decode cX4_findOrder 23 = .ok (.iconst 0, 1) := by decide +kernel
theorem dX4_findOrder_24 : decode cX4_findOrder 24 = .ok (.iconst 0, 1) := by decide +kernel
theorem dX4_findOrder_25 : decode cX4_findOrder 25 = .ok (.iconst 0, 1) := by decide +kernel
theorem dX4_findOrder_26 : decode cX4_findOrder 26 = .ok (.invokevirtual 43, 3) := by decide +kernel
theorem dX4_findOrder_29 : decode cX4_findOrder 29 = .ok (.return_, 1) := by decide +kernel
theorem dX4_tryOrders_0 : decode cX4_tryOrders 0 = .ok (.aload_n 0, 1) := by decide +kernel
theorem dX4_tryOrders_1 : decode cX4_tryOrders 1 = .ok (.getfield 24, 3) := by decide +kernel
theorem dX4_tryOrders_4 : decode cX4_tryOrders 4 = .ok (.bipush (-5), 2) := by decide +kernel
theorem dX4_tryOrders_6 : decode cX4_tryOrders 6 = .ok (.if_icmp .eq 12, 3) := by decide +kernel
theorem dX4_tryOrders_9 : decode cX4_tryOrders 9 = .ok (.iload_n 3, 1) := by decide +kernel
theorem dX4_tryOrders_10 : decode cX4_tryOrders 10 = .ok (.aload_n 0, 1) := by decide +kernel
theorem dX4_tryOrders_11 : decode cX4_tryOrders 11 = .ok (.getfield 24, 3) := by decide +kernel
theorem dX4_tryOrders_14 : decode cX4_tryOrders 14 = .ok (.if_icmp .lt 4, 3) := by decide +kernel
theorem dX4_tryOrders_17 : decode cX4_tryOrders 17 = .ok (.return_, 1) := by decide +kernel
theorem dX4_tryOrders_18 : decode cX4_tryOrders 18 = .ok (.iload_n 1, 1) := by decide +kernel
theorem dX4_tryOrders_19 : decode cX4_tryOrders 19 = .ok (.aload_n 0, 1) := by decide +kernel
theorem dX4_tryOrders_20 : decode cX4_tryOrders 20 = .ok (.getfield 28, 3) := by decide +kernel
theorem dX4_tryOrders_23 : decode cX4_tryOrders 23 = .ok (.getfield 47, 3) := by decide +kernel
theorem dX4_tryOrders_26 : decode cX4_tryOrders 26 = .ok (.if_icmp .lt 9, 3) := by decide +kernel
theorem dX4_tryOrders_29 : decode cX4_tryOrders 29 = .ok (.aload_n 0, 1) := by decide +kernel
theorem dX4_tryOrders_30 : decode cX4_tryOrders 30 = .ok (.iload_n 3, 1) := by decide +kernel
theorem dX4_tryOrders_31 : decode cX4_tryOrders 31 = .ok (.invokevirtual 50, 3) := by decide +kernel
theorem dX4_tryOrders_34 : decode cX4_tryOrders 34 = .ok (.return_, 1) := by decide +kernel
theorem dX4_tryOrders_35 : decode cX4_tryOrders 35 = .ok (.iconst 0, 1) := by decide +kernel
theorem dX4_tryOrders_36 : decode cX4_tryOrders 36 = .ok (.istore 4, 2) := by decide +kernel
theorem dX4_tryOrders_38 : decode cX4_tryOrders 38 = .ok (.iload 4, 2) := by decide +kernel
theorem dX4_tryOrders_40 : decode cX4_tryOrders 40 = .ok (.aload_n 0, 1) := by decide +kernel
theorem dX4_tryOrders_41 : decode cX4_tryOrders 41 = .ok (.getfield 28, 3) := by decide +kernel
theorem dX4_tryOrders_44 : decode cX4_tryOrders 44 = .ok (.getfield 47, 3) := by decide +kernel
theorem dX4_tryOrders_47 : decode cX4_tryOrders 47 = .ok (.if_icmp .ge 76, 3) := by decide +kernel
theorem dX4_tryOrders_50 : decode cX4_tryOrders 50 = .ok (.iload_n 2, 1) := by decide +kernel
theorem dX4_tryOrders_51 : decode cX4_tryOrders 51 = .ok (.iload 4, 2) := by decide +kernel
theorem dX4_tryOrders_53 : decode cX4_tryOrders 53 = .ok (.ishr, 1) := by decide +kernel
theorem dX4_tryOrders_54 : decode cX4_tryOrders 54 = .ok (.iconst 1, 1) := by decide +kernel
theorem dX4_tryOrders_55 : decode cX4_tryOrders 55 = .ok (.iand, 1) := by decide +kernel
theorem dX4_tryOrders_56 : decode cX4_tryOrders 56 = .ok (.ifCond .ne 61, 3) := by decide +kernel
theorem dX4_tryOrders_59 : decode cX4_tryOrders 59 = .ok (.aload_n 0, 1) := by decide +kernel
theorem dX4_tryOrders_60 : decode cX4_tryOrders 60 = .ok (.getfield 17, 3) := by decide +kernel
theorem dX4_tryOrders_63 : decode cX4_tryOrders 63 = .ok (.iload_n 1, 1) := by decide +kernel
theorem dX4_tryOrders_64 : decode cX4_tryOrders 64 = .ok (.iload 4, 2) := by decide +kernel
theorem dX4_tryOrders_66 : decode cX4_tryOrders 66 = .ok (.iastore, 1) := by decide +kernel
theorem dX4_tryOrders_67 : decode cX4_tryOrders 67 = .ok (.aload_n 0, 1) := by decide +kernel
theorem dX4_tryOrders_68 : decode cX4_tryOrders 68 = .ok (.getfield 11, 3) := by decide +kernel
theorem dX4_tryOrders_71 : decode cX4_tryOrders 71 = .ok (.iload_n 1, 1) := by decide +kernel
theorem dX4_tryOrders_72 : decode cX4_tryOrders 72 = .ok (.iconst 1, 1) := by decide +kernel
theorem dX4_tryOrders_73 : decode cX4_tryOrders 73 = .ok (.iadd, 1) := by decide +kernel
theorem dX4_tryOrders_74 : decode cX4_tryOrders 74 = .ok (.aaload, 1) := by decide +kernel
theorem dX4_tryOrders_75 : decode cX4_tryOrders 75 = .ok (.aload_n 0, 1) := by decide +kernel
theorem dX4_tryOrders_76 : decode cX4_tryOrders 76 = .ok (.getfield 11, 3) := by decide +kernel
theorem dX4_tryOrders_79 : decode cX4_tryOrders 79 = .ok (.iload_n 1, 1) := by decide +kernel
theorem dX4_tryOrders_80 : decode cX4_tryOrders 80 = .ok (.aaload, 1) := by decide +kernel
theorem dX4_tryOrders_81 : decode cX4_tryOrders 81 = .ok (.invokevirtual 39, 3) := by decide +kernel
theorem dX4_tryOrders_84 : decode cX4_tryOrders 84 = .ok (.aload_n 0, 1) := by decide +kernel
theorem dX4_tryOrders_85 : decode cX4_tryOrders 85 = .ok (.aload_n 0, 1) := by decide +kernel
theorem dX4_tryOrders_86 : decode cX4_tryOrders 86 = .ok (.getfield 11, 3) := by decide +kernel
theorem dX4_tryOrders_89 : decode cX4_tryOrders 89 = .ok (.iload_n 1, 1) := by decide +kernel
theorem dX4_tryOrders_90 : decode cX4_tryOrders 90 = .ok (.iconst 1, 1) := by decide +kernel
theorem dX4_tryOrders_91 : decode cX4_tryOrders 91 = .ok (.iadd, 1) := by decide +kernel
theorem dX4_tryOrders_92 : decode cX4_tryOrders 92 = .ok (.aaload, 1) := by decide +kernel
theorem dX4_tryOrders_93 : decode cX4_tryOrders 93 = .ok (.iload 4, 2) := by decide +kernel
theorem dX4_tryOrders_95 : decode cX4_tryOrders 95 = .ok (.invokevirtual 54, 3) := by decide +kernel
theorem dX4_tryOrders_98 : decode cX4_tryOrders 98 = .ok (.istore 5, 2) := by decide +kernel
theorem dX4_tryOrders_100 : decode cX4_tryOrders 100 = .ok (.aload_n 0, 1) := by decide +kernel
theorem dX4_tryOrders_101 : decode cX4_tryOrders 101 = .ok (.iload_n 1, 1) := by decide +kernel
theorem dX4_tryOrders_102 : decode cX4_tryOrders 102 = .ok (.iconst 1, 1) := by decide +kernel
theorem dX4_tryOrders_103 : decode cX4_tryOrders 103 = .ok (.iadd, 1) := by decide +kernel
theorem dX4_tryOrders_104 : decode cX4_tryOrders 104 = .ok (.iload_n 2, 1) := by decide +kernel
theorem dX4_tryOrders_105 : decode cX4_tryOrders 105 = .ok (.iconst 1, 1) := by decide +kernel
theorem dX4_tryOrders_106 : decode cX4_tryOrders 106 = .ok (.iload 4, 2) := by decide +kernel
theorem dX4_tryOrders_108 : decode cX4_tryOrders 108 = .ok (.ishl, 1) := by decide +kernel
theorem dX4_tryOrders_109 : decode cX4_tryOrders 109 = .ok (.ior, 1) := by decide +kernel
theorem dX4_tryOrders_110 : decode cX4_tryOrders 110 = .ok (.iload_n 3, 1) := by decide +kernel
theorem dX4_tryOrders_111 : decode cX4_tryOrders 111 = .ok (.iload 5, 2) := by decide +kernel
theorem dX4_tryOrders_113 : decode cX4_tryOrders 113 = .ok (.iadd, 1) := by decide +kernel
theorem dX4_tryOrders_114 : decode cX4_tryOrders 114 = .ok (.invokevirtual 43, 3) := by decide +kernel
theorem dX4_tryOrders_117 : decode cX4_tryOrders 117 = .ok (.iinc 4 1, 3) := by decide +kernel
theorem dX4_tryOrders_120 : decode cX4_tryOrders 120 = .ok (.goto (-82), 3) := by decide +kernel
theorem dX4_tryOrders_123 : decode cX4_tryOrders 123 = .ok (.return_, 1) := by decide +kernel
theorem dX4_turn_0 : decode cX4_turn 0 = .ok (.iconst 0, 1) := by decide +kernel
theorem dX4_turn_1 : decode cX4_turn 1 = .ok (.istore_n 3, 1) := by decide +kernel
theorem dX4_turn_2 : decode cX4_turn 2 = .ok (.iload_n 3, 1) := by decide +kernel
theorem dX4_turn_3 : decode cX4_turn 3 = .ok (.bipush 20, 2) := by decide +kernel
theorem dX4_turn_5 : decode cX4_turn 5 = .ok (.if_icmp .ge 36, 3) := by decide +kernel
theorem dX4_turn_8 : decode cX4_turn 8 = .ok (.aload_n 1, 1) := by decide +kernel
theorem dX4_turn_9 : decode cX4_turn 9 = .ok (.iload_n 2, 1) := by decide +kernel
theorem dX4_turn_10 : decode cX4_turn 10 = .ok (.invokevirtual 58, 3) := by decide +kernel
theorem dX4_turn_13 : decode cX4_turn 13 = .ok (.ifCond .ne 28, 3) := by decide +kernel
theorem dX4_turn_16 : decode cX4_turn 16 = .ok (.aload_n 1, 1) := by decide +kernel
theorem dX4_turn_17 : decode cX4_turn 17 = .ok (.getfield 62, 3) := by decide +kernel
theorem dX4_turn_20 : decode cX4_turn 20 = .ok (.iload_n 2, 1) := by decide +kernel
theorem dX4_turn_21 : decode cX4_turn 21 = .ok (.baload, 1) := by decide +kernel
theorem dX4_turn_22 : decode cX4_turn 22 = .ok (.ifCond .ne 19, 3) := by decide +kernel
theorem dX4_turn_25 : decode cX4_turn 25 = .ok (.aload_n 0, 1) := by decide +kernel
theorem dX4_turn_26 : decode cX4_turn 26 = .ok (.getfield 28, 3) := by decide +kernel
theorem dX4_turn_29 : decode cX4_turn 29 = .ok (.aload_n 1, 1) := by decide +kernel
theorem dX4_turn_30 : decode cX4_turn 30 = .ok (.iload_n 2, 1) := by decide +kernel
theorem dX4_turn_31 : decode cX4_turn 31 = .ok (.invokevirtual 66, 3) := by decide +kernel
theorem dX4_turn_34 : decode cX4_turn 34 = .ok (.pop, 1) := by decide +kernel
theorem dX4_turn_35 : decode cX4_turn 35 = .ok (.iinc 3 1, 3) := by decide +kernel
theorem dX4_turn_38 : decode cX4_turn 38 = .ok (.goto (-36), 3) := by decide +kernel
theorem dX4_turn_41 : decode cX4_turn 41 = .ok (.iload_n 3, 1) := by decide +kernel
theorem dX4_turn_42 : decode cX4_turn 42 = .ok (.ireturn, 1) := by decide +kernel
theorem dX4_findRow_0 : decode cX4_findRow 0 = .ok (.aload_n 0, 1) := by decide +kernel
theorem dX4_findRow_1 : decode cX4_findRow 1 = .ok (.bipush (-5), 2) := by decide +kernel
theorem dX4_findRow_3 : decode cX4_findRow 3 = .ok (.putfield 24, 3) := by decide +kernel
theorem dX4_findRow_6 : decode cX4_findRow 6 = .ok (.aload_n 0, 1) := by decide +kernel
theorem dX4_findRow_7 : decode cX4_findRow 7 = .ok (.getfield 11, 3) := by decide +kernel
theorem dX4_findRow_10 : decode cX4_findRow 10 = .ok (.iconst 0, 1) := by decide +kernel
theorem dX4_findRow_11 : decode cX4_findRow 11 = .ok (.aaload, 1) := by decide +kernel
theorem dX4_findRow_12 : decode cX4_findRow 12 = .ok (.aload_n 0, 1) := by decide +kernel
theorem dX4_findRow_13 : decode cX4_findRow 13 = .ok (.getfield 28, 3) := by decide +kernel
theorem dX4_findRow_16 : decode cX4_findRow 16 = .ok (.getfield 33, 3) := by decide +kernel
theorem dX4_findRow_19 : decode cX4_findRow 19 = .ok (.invokevirtual 39, 3) := by decide +kernel
theorem dX4_findRow_22 : decode cX4_findRow 22 = .ok (.aload_n 0, 1) := by decide +kernel
theorem dX4_findRow_23 : decode cX4_findRow 23 = .ok (.iconst 0, 1) := by decide +kernel
theorem dX4_findRow_24 : decode cX4_findRow 24 = .ok (.iload_n 1, 1) := by decide +kernel
theorem dX4_findRow_25 : decode cX4_findRow 25 = .ok (.invokevirtual 69, 3) := by decide +kernel
theorem dX4_findRow_28 : decode cX4_findRow 28 = .ok (.return_, 1) := by decide +kernel
theorem dX4_tryRows_0 : decode cX4_tryRows 0 = .ok (.iload_n 1, 1) := by decide +kernel
theorem dX4_tryRows_1 : decode cX4_tryRows 1 = .ok (.iload_n 2, 1) := by decide +kernel
theorem dX4_tryRows_2 : decode cX4_tryRows 2 = .ok (.if_icmp .ge 9, 3) := by decide +kernel
theorem dX4_tryRows_5 : decode cX4_tryRows 5 = .ok (.iload_n 1, 1) := by decide +kernel
theorem dX4_tryRows_6 : decode cX4_tryRows 6 = .ok (.bipush 6, 2) := by decide +kernel
theorem dX4_tryRows_8 : decode cX4_tryRows 8 = .ok (.if_icmp .lt 31, 3) := by decide +kernel
theorem dX4_tryRows_11 : decode cX4_tryRows 11 = .ok (.aload_n 0, 1) := by decide +kernel
theorem dX4_tryRows_12 : decode cX4_tryRows 12 = .ok (.getfield 28, 3) := by decide +kernel
theorem dX4_tryRows_15 : decode cX4_tryRows 15 = .ok (.aload_n 0, 1) := by decide +kernel
theorem dX4_tryRows_16 : decode cX4_tryRows 16 = .ok (.getfield 11, 3) := by decide +kernel
theorem dX4_tryRows_19 : decode cX4_tryRows 19 = .ok (.iload_n 1, 1) := by decide +kernel
theorem dX4_tryRows_20 : decode cX4_tryRows 20 = .ok (.aaload, 1) := by decide +kernel
theorem dX4_tryRows_21 : decode cX4_tryRows 21 = .ok (.invokevirtual 73, 3) := by decide +kernel
theorem dX4_tryRows_24 : decode cX4_tryRows 24 = .ok (.istore_n 3, 1) := by decide +kernel
theorem dX4_tryRows_25 : decode cX4_tryRows 25 = .ok (.iload_n 3, 1) := by decide +kernel
theorem dX4_tryRows_26 : decode cX4_tryRows 26 = .ok (.aload_n 0, 1) := by decide +kernel
theorem dX4_tryRows_27 : decode cX4_tryRows 27 = .ok (.getfield 24, 3) := by decide +kernel
theorem dX4_tryRows_30 : decode cX4_tryRows 30 = .ok (.if_icmp .le 8, 3) := by decide +kernel
theorem dX4_tryRows_33 : decode cX4_tryRows 33 = .ok (.aload_n 0, 1) := by decide +kernel
theorem dX4_tryRows_34 : decode cX4_tryRows 34 = .ok (.iload_n 3, 1) := by decide +kernel
theorem dX4_tryRows_35 : decode cX4_tryRows 35 = .ok (.invokevirtual 50, 3) := by decide +kernel
theorem dX4_tryRows_38 : decode cX4_tryRows 38 = .ok (.return_, 1) := by decide +kernel
theorem dX4_tryRows_39 : decode cX4_tryRows 39 = .ok (.iconst 0, 1) := by decide +kernel
theorem dX4_tryRows_40 : decode cX4_tryRows 40 = .ok (.istore_n 3, 1) := by decide +kernel
theorem dX4_tryRows_41 : decode cX4_tryRows 41 = .ok (.iload_n 3, 1) := by decide +kernel
theorem dX4_tryRows_42 : decode cX4_tryRows 42 = .ok (.aload_n 0, 1) := by decide +kernel
theorem dX4_tryRows_43 : decode cX4_tryRows 43 = .ok (.getfield 28, 3) := by decide +kernel
theorem dX4_tryRows_46 : decode cX4_tryRows 46 = .ok (.getfield 47, 3) := by decide +kernel
theorem dX4_tryRows_49 : decode cX4_tryRows 49 = .ok (.if_icmp .ge 58, 3) := by decide +kernel
theorem dX4_tryRows_52 : decode cX4_tryRows 52 = .ok (.aload_n 0, 1) := by decide +kernel
theorem dX4_tryRows_53 : decode cX4_tryRows 53 = .ok (.getfield 17, 3) := by decide +kernel
theorem dX4_tryRows_56 : decode cX4_tryRows 56 = .ok (.iload_n 1, 1) := by decide +kernel
theorem dX4_tryRows_57 : decode cX4_tryRows 57 = .ok (.iload_n 3, 1) := by decide +kernel
theorem dX4_tryRows_58 : decode cX4_tryRows 58 = .ok (.iastore, 1) := by decide +kernel
theorem dX4_tryRows_59 : decode cX4_tryRows 59 = .ok (.aload_n 0, 1) := by decide +kernel
theorem dX4_tryRows_60 : decode cX4_tryRows 60 = .ok (.getfield 11, 3) := by decide +kernel
theorem dX4_tryRows_63 : decode cX4_tryRows 63 = .ok (.iload_n 1, 1) := by decide +kernel
theorem dX4_tryRows_64 : decode cX4_tryRows 64 = .ok (.iconst 1, 1) := by decide +kernel
theorem dX4_tryRows_65 : decode cX4_tryRows 65 = .ok (.iadd, 1) := by decide +kernel
theorem dX4_tryRows_66 : decode cX4_tryRows 66 = .ok (.aaload, 1) := by decide +kernel
theorem dX4_tryRows_67 : decode cX4_tryRows 67 = .ok (.aload_n 0, 1) := by decide +kernel
theorem dX4_tryRows_68 : decode cX4_tryRows 68 = .ok (.getfield 11, 3) := by decide +kernel
theorem dX4_tryRows_71 : decode cX4_tryRows 71 = .ok (.iload_n 1, 1) := by decide +kernel
theorem dX4_tryRows_72 : decode cX4_tryRows 72 = .ok (.aaload, 1) := by decide +kernel
theorem dX4_tryRows_73 : decode cX4_tryRows 73 = .ok (.invokevirtual 39, 3) := by decide +kernel
theorem dX4_tryRows_76 : decode cX4_tryRows 76 = .ok (.aload_n 0, 1) := by decide +kernel
theorem dX4_tryRows_77 : decode cX4_tryRows 77 = .ok (.getfield 28, 3) := by decide +kernel
theorem dX4_tryRows_80 : decode cX4_tryRows 80 = .ok (.aload_n 0, 1) := by decide +kernel
theorem dX4_tryRows_81 : decode cX4_tryRows 81 = .ok (.getfield 11, 3) := by decide +kernel
theorem dX4_tryRows_84 : decode cX4_tryRows 84 = .ok (.iload_n 1, 1) := by decide +kernel
theorem dX4_tryRows_85 : decode cX4_tryRows 85 = .ok (.iconst 1, 1) := by decide +kernel
theorem dX4_tryRows_86 : decode cX4_tryRows 86 = .ok (.iadd, 1) := by decide +kernel
theorem dX4_tryRows_87 : decode cX4_tryRows 87 = .ok (.aaload, 1) := by decide +kernel
theorem dX4_tryRows_88 : decode cX4_tryRows 88 = .ok (.iload_n 3, 1) := by decide +kernel
theorem dX4_tryRows_89 : decode cX4_tryRows 89 = .ok (.invokevirtual 66, 3) := by decide +kernel
theorem dX4_tryRows_92 : decode cX4_tryRows 92 = .ok (.pop, 1) := by decide +kernel
theorem dX4_tryRows_93 : decode cX4_tryRows 93 = .ok (.aload_n 0, 1) := by decide +kernel
theorem dX4_tryRows_94 : decode cX4_tryRows 94 = .ok (.iload_n 1, 1) := by decide +kernel
theorem dX4_tryRows_95 : decode cX4_tryRows 95 = .ok (.iconst 1, 1) := by decide +kernel
theorem dX4_tryRows_96 : decode cX4_tryRows 96 = .ok (.iadd, 1) := by decide +kernel
theorem dX4_tryRows_97 : decode cX4_tryRows 97 = .ok (.iload_n 2, 1) := by decide +kernel
theorem dX4_tryRows_98 : decode cX4_tryRows 98 = .ok (.invokevirtual 69, 3) := by decide +kernel
theorem dX4_tryRows_101 : decode cX4_tryRows 101 = .ok (.iinc 3 1, 3) := by decide +kernel
theorem dX4_tryRows_104 : decode cX4_tryRows 104 = .ok (.goto (-63), 3) := by decide +kernel
theorem dX4_tryRows_107 : decode cX4_tryRows 107 = .ok (.return_, 1) := by decide +kernel
theorem dX4_keep_0 : decode cX4_keep 0 = .ok (.aload_n 0, 1) := by decide +kernel
theorem dX4_keep_1 : decode cX4_keep 1 = .ok (.iload_n 1, 1) := by decide +kernel
theorem dX4_keep_2 : decode cX4_keep 2 = .ok (.putfield 24, 3) := by decide +kernel
theorem dX4_keep_5 : decode cX4_keep 5 = .ok (.aload_n 0, 1) := by decide +kernel
theorem dX4_keep_6 : decode cX4_keep 6 = .ok (.getfield 17, 3) := by decide +kernel
theorem dX4_keep_9 : decode cX4_keep 9 = .ok (.iconst 0, 1) := by decide +kernel
theorem dX4_keep_10 : decode cX4_keep 10 = .ok (.aload_n 0, 1) := by decide +kernel
theorem dX4_keep_11 : decode cX4_keep 11 = .ok (.getfield 21, 3) := by decide +kernel
theorem dX4_keep_14 : decode cX4_keep 14 = .ok (.iconst 0, 1) := by decide +kernel
theorem dX4_keep_15 : decode cX4_keep 15 = .ok (.bipush 6, 2) := by decide +kernel
theorem dX4_keep_17 : decode cX4_keep 17 = .ok (.invokestatic 77, 3) := by decide +kernel
theorem dX4_keep_20 : decode cX4_keep 20 = .ok (.return_, 1) := by decide +kernel
theorem dX5_init_0 : decode cX5_init 0 = .ok (.aload_n 0, 1) := by decide +kernel
theorem dX5_init_1 : decode cX5_init 1 = .ok (.invokespecial 1, 3) := by decide +kernel
theorem dX5_init_4 : decode cX5_init 4 = .ok (.aload_n 0, 1) := by decide +kernel
theorem dX5_init_5 : decode cX5_init 5 = .ok (.bipush 100, 2) := by decide +kernel
theorem dX5_init_7 : decode cX5_init 7 = .ok (.newarray .byte, 2) := by decide +kernel
theorem dX5_init_9 : decode cX5_init 9 = .ok (.putfield 9, 3) := by decide +kernel
theorem dX5_init_12 : decode cX5_init 12 = .ok (.aload_n 0, 1) := by decide +kernel
theorem dX5_init_13 : decode cX5_init 13 = .ok (.iconst 0, 1) := by decide +kernel
theorem dX5_init_14 : decode cX5_init 14 = .ok (.putfield 13, 3) := by decide +kernel
theorem dX5_init_17 : decode cX5_init 17 = .ok (.aload_n 0, 1) := by decide +kernel
theorem dX5_init_18 : decode cX5_init 18 = .ok (.iconst 0, 1) := by decide +kernel
theorem dX5_init_19 : decode cX5_init 19 = .ok (.putfield 17, 3) := by decide +kernel
theorem dX5_init_22 : decode cX5_init 22 = .ok (.aload_n 0, 1) := by decide +kernel
theorem dX5_init_23 : decode cX5_init 23 = .ok (.iconst (-1), 1) := by decide +kernel
theorem dX5_init_24 : decode cX5_init 24 = .ok (.putfield 20, 3) := by decide +kernel
theorem dX5_init_27 : decode cX5_init 27 = .ok (.aload_n 0, 1) := by decide +kernel
theorem dX5_init_28 : decode cX5_init 28 = .ok (.iconst 0, 1) := by decide +kernel
theorem dX5_init_29 : decode cX5_init 29 = .ok (.putfield 23, 3) := by decide +kernel
theorem dX5_init_32 : decode cX5_init 32 = .ok (.aload_n 0, 1) := by decide +kernel
theorem dX5_init_33 : decode cX5_init 33 = .ok (.aconst_null, 1) := by decide +kernel
theorem dX5_init_34 : decode cX5_init 34 = .ok (.putfield 27, 3) := by decide +kernel
theorem dX5_init_37 : decode cX5_init 37 = .ok (.return_, 1) := by decide +kernel
theorem dX5_take_0 : decode cX5_take 0 = .ok (.aload_n 0, 1) := by decide +kernel
theorem dX5_take_1 : decode cX5_take 1 = .ok (.getfield 13, 3) := by decide +kernel
theorem dX5_take_4 : decode cX5_take 4 = .ok (.bipush 100, 2) := by decide +kernel
theorem dX5_take_6 : decode cX5_take 6 = .ok (.if_icmp .lt 5, 3) := by decide +kernel
theorem dX5_take_9 : decode cX5_take 9 = .ok (.iconst 0, 1) := by decide +kernel
theorem dX5_take_10 : decode cX5_take 10 = .ok (.ireturn, 1) := by decide +kernel
theorem dX5_take_11 : decode cX5_take 11 = .ok (.aload_n 0, 1) := by decide +kernel
theorem dX5_take_12 : decode cX5_take 12 = .ok (.getfield 9, 3) := by decide +kernel
theorem dX5_take_15 : decode cX5_take 15 = .ok (.aload_n 0, 1) := by decide +kernel
theorem dX5_take_16 : decode cX5_take 16 = .ok (.getfield 13, 3) := by decide +kernel
theorem dX5_take_19 : decode cX5_take 19 = .ok (.iload_n 1, 1) := by decide +kernel
theorem dX5_take_20 : decode cX5_take 20 = .ok (.bastore, 1) := by decide +kernel
theorem dX5_take_21 : decode cX5_take 21 = .ok (.aload_n 0, 1) := by decide +kernel
theorem dX5_take_22 : decode cX5_take 22 = .ok (.dup, 1) := by decide +kernel
theorem dX5_take_23 : decode cX5_take 23 = .ok (.getfield 13, 3) := by decide +kernel
theorem dX5_take_26 : decode cX5_take 26 = .ok (.iconst 1, 1) := by decide +kernel
theorem dX5_take_27 : decode cX5_take 27 = .ok (.iadd, 1) := by decide +kernel
theorem dX5_take_28 : decode cX5_take 28 = .ok (.putfield 13, 3) := by decide +kernel
theorem dX5_take_31 : decode cX5_take 31 = .ok (.iconst 1, 1) := by decide +kernel
theorem dX5_take_32 : decode cX5_take 32 = .ok (.ireturn, 1) := by decide +kernel
theorem dX5_readInto_0 : decode cX5_readInto 0 = .ok (.aload_n 0, 1) := by decide +kernel
theorem dX5_readInto_1 : decode cX5_readInto 1 = .ok (.aload_n 1, 1) := by decide +kernel
theorem dX5_readInto_2 : decode cX5_readInto 2 = .ok (.putfield 27, 3) := by decide +kernel
theorem dX5_readInto_5 : decode cX5_readInto 5 = .ok (.aload_n 0, 1) := by decide +kernel
theorem dX5_readInto_6 : decode cX5_readInto 6 = .ok (.getfield 27, 3) := by decide +kernel
theorem dX5_readInto_9 : decode cX5_readInto 9 = .ok (.invokevirtual 31, 3) := by decide +kernel
theorem dX5_readInto_12 : decode cX5_readInto 12 = .ok (.aload_n 0, 1) := by decide +kernel
theorem dX5_readInto_13 : decode cX5_readInto 13 = .ok (.iconst 0, 1) := by decide +kernel
theorem dX5_readInto_14 : decode cX5_readInto 14 = .ok (.putfield 23, 3) := by decide +kernel
theorem dX5_readInto_17 : decode cX5_readInto 17 = .ok (.aload_n 0, 1) := by decide +kernel
theorem dX5_readInto_18 : decode cX5_readInto 18 = .ok (.iconst (-1), 1) := by decide +kernel
theorem dX5_readInto_19 : decode cX5_readInto 19 = .ok (.putfield 17, 3) := by decide +kernel
theorem dX5_readInto_22 : decode cX5_readInto 22 = .ok (.aload_n 0, 1) := by decide +kernel
theorem dX5_readInto_23 : decode cX5_readInto 23 = .ok (.invokevirtual 36, 3) := by decide +kernel
theorem dX5_readInto_26 : decode cX5_readInto 26 = .ok (.aload_n 0, 1) := by decide +kernel
theorem dX5_readInto_27 : decode cX5_readInto 27 = .ok (.invokevirtual 39, 3) := by decide +kernel
theorem dX5_readInto_30 : decode cX5_readInto 30 = .ok (.iconst 1, 1) := by decide +kernel
theorem dX5_readInto_31 : decode cX5_readInto 31 = .ok (.istore_n 2, 1) := by decide +kernel
theorem dX5_readInto_32 : decode cX5_readInto 32 = .ok (.iload_n 2, 1) := by decide +kernel
theorem dX5_readInto_33 : decode cX5_readInto 33 = .ok (.bipush 10, 2) := by decide +kernel
theorem dX5_readInto_35 : decode cX5_readInto 35 = .ok (.if_icmp .ge 33, 3) := by decide +kernel
theorem dX5_readInto_38 : decode cX5_readInto 38 = .ok (.aload_n 0, 1) := by decide +kernel
theorem dX5_readInto_39 : decode cX5_readInto 39 = .ok (.getfield 23, 3) := by decide +kernel
theorem dX5_readInto_42 : decode cX5_readInto 42 = .ok (.ifCond .ne 26, 3) := by decide +kernel
theorem dX5_readInto_45 : decode cX5_readInto 45 = .ok (.aload_n 0, 1) := by decide +kernel
theorem dX5_readInto_46 : decode cX5_readInto 46 = .ok (.getfield 20, 3) := by decide +kernel
theorem dX5_readInto_49 : decode cX5_readInto 49 = .ok (.bipush 59, 2) := by decide +kernel
theorem dX5_readInto_51 : decode cX5_readInto 51 = .ok (.if_icmp .ne 17, 3) := by decide +kernel
theorem dX5_readInto_54 : decode cX5_readInto 54 = .ok (.aload_n 0, 1) := by decide +kernel
theorem dX5_readInto_55 : decode cX5_readInto 55 = .ok (.invokevirtual 36, 3) := by decide +kernel
theorem dX5_readInto_58 : decode cX5_readInto 58 = .ok (.aload_n 0, 1) := by decide +kernel
theorem dX5_readInto_59 : decode cX5_readInto 59 = .ok (.invokevirtual 39, 3) := by decide +kernel
theorem dX5_readInto_62 : decode cX5_readInto 62 = .ok (.iinc 2 1, 3) := by decide +kernel
theorem dX5_readInto_65 : decode cX5_readInto 65 = .ok (.goto (-33), 3) := by decide +kernel
theorem dX5_readInto_68 : decode cX5_readInto 68 = .ok (.aload_n 0, 1) := by decide +kernel
theorem dX5_readInto_69 : decode cX5_readInto 69 = .ok (.getfield 23, 3) := by decide +kernel
theorem dX5_readInto_72 : decode cX5_readInto 72 = .ok (.ifCond .ne 15, 3) := by decide +kernel
theorem dX5_readInto_75 : decode cX5_readInto 75 = .ok (.aload_n 0, 1) := by decide +kernel
theorem dX5_readInto_76 : decode cX5_readInto 76 = .ok (.getfield 20, 3) := by decide +kernel
theorem dX5_readInto_79 : decode cX5_readInto 79 = .ok (.iconst (-1), 1) := by decide +kernel
theorem dX5_readInto_80 : decode cX5_readInto 80 = .ok (.if_icmp .ne 7, 3) := by decide +kernel
theorem dX5_readInto_83 : decode cX5_readInto 83 = .ok (.iconst 1, 1) := by decide +kernel
theorem dX5_readInto_84 : decode cX5_readInto 84 = .ok (.goto 4, 3) := by decide +kernel
theorem dX5_readInto_87 : decode cX5_readInto 87 = .ok (.iconst 0, 1) := by decide +kernel
theorem dX5_readInto_88 : decode cX5_readInto 88 = .ok (.ireturn, 1) := by decide +kernel
theorem dX5_step_0 : decode cX5_step 0 = .ok (.aload_n 0, 1) := by decide +kernel
theorem dX5_step_1 : decode cX5_step 1 = .ok (.dup, 1) := by decide +kernel
theorem dX5_step_2 : decode cX5_step 2 = .ok (.getfield 17, 3) := by decide +kernel
theorem dX5_step_5 : decode cX5_step 5 = .ok (.iconst 1, 1) := by decide +kernel
theorem dX5_step_6 : decode cX5_step 6 = .ok (.iadd, 1) := by decide +kernel
theorem dX5_step_7 : decode cX5_step 7 = .ok (.putfield 17, 3) := by decide +kernel
theorem dX5_step_10 : decode cX5_step 10 = .ok (.aload_n 0, 1) := by decide +kernel
theorem dX5_step_11 : decode cX5_step 11 = .ok (.aload_n 0, 1) := by decide +kernel
theorem dX5_step_12 : decode cX5_step 12 = .ok (.getfield 17, 3) := by decide +kernel
theorem dX5_step_15 : decode cX5_step 15 = .ok (.aload_n 0, 1) := by decide +kernel
theorem dX5_step_16 : decode cX5_step 16 = .ok (.getfield 13, 3) := by decide +kernel
theorem dX5_step_19 : decode cX5_step 19 = .ok (.if_icmp .ge 15, 3) := by decide +kernel
theorem dX5_step_22 : decode cX5_step 22 = .ok (.aload_n 0, 1) := by decide +kernel
theorem dX5_step_23 : decode cX5_step 23 = .ok (.getfield 9, 3) := by decide +kernel
theorem dX5_step_26 : decode cX5_step 26 = .ok (.aload_n 0, 1) := by decide +kernel
theorem dX5_step_27 : decode cX5_step 27 = .ok (.getfield 17, 3) := by decide +kernel
theorem dX5_step_30 : decode cX5_step 30 = .ok (.baload, 1) := by decide +kernel
theorem dX5_step_31 : decode cX5_step 31 = .ok (.goto 4, 3) := by decide +kernel
theorem dX5_step_34 : decode cX5_step 34 = .ok (.iconst (-1), 1) := by decide +kernel
theorem dX5_step_35 : decode cX5_step 35 = .ok (.putfield 20, 3) := by decide +kernel
theorem dX5_step_38 : decode cX5_step 38 = .ok (.return_, 1) := by decide +kernel
theorem dX5_need_0 : decode cX5_need 0 = .ok (.aload_n 0, 1) := by decide +kernel
theorem dX5_need_1 : decode cX5_need 1 = .ok (.getfield 23, 3) := by decide +kernel
theorem dX5_need_4 : decode cX5_need 4 = .ok (.ifCond .ne 18, 3) := by decide +kernel
theorem dX5_need_7 : decode cX5_need 7 = .ok (.aload_n 0, 1) := by decide +kernel
theorem dX5_need_8 : decode cX5_need 8 = .ok (.getfield 20, 3) := by decide +kernel
theorem dX5_need_11 : decode cX5_need 11 = .ok (.iload_n 1, 1) := by decide +kernel
theorem dX5_need_12 : decode cX5_need 12 = .ok (.if_icmp .ne 10, 3) := by decide +kernel
theorem dX5_need_15 : decode cX5_need 15 = .ok (.aload_n 0, 1) := by decide +kernel
theorem dX5_need_16 : decode cX5_need 16 = .ok (.invokevirtual 36, 3) := by decide +kernel
theorem dX5_need_19 : decode cX5_need 19 = .ok (.goto 8, 3) := by decide +kernel
theorem dX5_need_22 : decode cX5_need 22 = .ok (.aload_n 0, 1) := by decide +kernel
theorem dX5_need_23 : decode cX5_need 23 = .ok (.iconst 1, 1) := by decide +kernel
theorem dX5_need_24 : decode cX5_need 24 = .ok (.putfield 23, 3) := by decide +kernel
theorem dX5_need_27 : decode cX5_need 27 = .ok (.return_, 1) := by decide +kernel
theorem dX5_word_0 : decode cX5_word 0 = .ok (.iconst 0, 1) := by decide +kernel
theorem dX5_word_1 : decode cX5_word 1 = .ok (.istore_n 2, 1) := by decide +kernel
theorem dX5_word_2 : decode cX5_word 2 = .ok (.iload_n 2, 1) := by decide +kernel
theorem dX5_word_3 : decode cX5_word 3 = .ok (.aload_n 1, 1) := by decide +kernel
theorem dX5_word_4 : decode cX5_word 4 = .ok (.invokevirtual 42, 3) := by decide +kernel
theorem dX5_word_7 : decode cX5_word 7 = .ok (.if_icmp .ge 18, 3) := by decide +kernel
theorem dX5_word_10 : decode cX5_word 10 = .ok (.aload_n 0, 1) := by decide +kernel
theorem dX5_word_11 : decode cX5_word 11 = .ok (.aload_n 1, 1) := by decide +kernel
theorem dX5_word_12 : decode cX5_word 12 = .ok (.iload_n 2, 1) := by decide +kernel
theorem dX5_word_13 : decode cX5_word 13 = .ok (.invokevirtual 47, 3) := by decide +kernel
theorem dX5_word_16 : decode cX5_word 16 = .ok (.invokevirtual 51, 3) := by decide +kernel
theorem dX5_word_19 : decode cX5_word 19 = .ok (.iinc 2 1, 3) := by decide +kernel
theorem dX5_word_22 : decode cX5_word 22 = .ok (.goto (-20), 3) := by decide +kernel
theorem dX5_word_25 : decode cX5_word 25 = .ok (.aload_n 0, 1) := by decide +kernel
theorem dX5_word_26 : decode cX5_word 26 = .ok (.bipush 32, 2) := by decide +kernel
theorem dX5_word_28 : decode cX5_word 28 = .ok (.invokevirtual 51, 3) := by decide +kernel
theorem dX5_word_31 : decode cX5_word 31 = .ok (.return_, 1) := by decide +kernel
theorem dX5_clause_0 : decode cX5_clause 0 = .ok (.aload_n 0, 1) := by decide +kernel
theorem dX5_clause_1 : decode cX5_clause 1 = .ok (.getfield 20, 3) := by decide +kernel
theorem dX5_clause_4 : decode cX5_clause 4 = .ok (.bipush 112, 2) := by decide +kernel
theorem dX5_clause_6 : decode cX5_clause 6 = .ok (.if_icmp .ne 25, 3) := by decide +kernel
theorem dX5_clause_9 : decode cX5_clause 9 = .ok (.aload_n 0, 1) := by decide +kernel
theorem dX5_clause_10 : decode cX5_clause 10 = .ok (.ldc 55, 2) := by decide +kernel
theorem dX5_clause_12 : decode cX5_clause 12 = .ok (.invokevirtual 57, 3) := by decide +kernel
theorem dX5_clause_15 : decode cX5_clause 15 = .ok (.aload_n 0, 1) := by decide +kernel
theorem dX5_clause_16 : decode cX5_clause 16 = .ok (.getfield 27, 3) := by decide +kernel
theorem dX5_clause_19 : decode cX5_clause 19 = .ok (.iconst 1, 1) := by decide +kernel
theorem dX5_clause_20 : decode cX5_clause 20 = .ok (.aload_n 0, 1) := by decide +kernel
theorem dX5_clause_21 : decode cX5_clause 21 = .ok (.invokevirtual 61, 3) := by decide +kernel
theorem dX5_clause_24 : decode cX5_clause 24 = .ok (.invokestatic 64, 3) := by decide +kernel
theorem dX5_clause_27 : decode cX5_clause 27 = .ok (.putfield 70, 3) := by decide +kernel
theorem dX5_clause_30 : decode cX5_clause 30 = .ok (.return_, 1) := by decide +kernel
theorem dX5_clause_31 : decode cX5_clause 31 = .ok (.aload_n 0, 1) := by decide +kernel
theorem dX5_clause_32 : decode cX5_clause 32 = .ok (.getfield 20, 3) := by decide +kernel
theorem dX5_clause_35 : decode cX5_clause 35 = .ok (.bipush 110, 2) := by decide +kernel
theorem dX5_clause_37 : decode cX5_clause 37 = .ok (.if_icmp .ne 7, 3) := by decide +kernel
theorem dX5_clause_40 : decode cX5_clause 40 = .ok (.iconst 1, 1) := by decide +kernel
theorem dX5_clause_41 : decode cX5_clause 41 = .ok (.goto 4, 3) := by decide +kernel
theorem dX5_clause_44 : decode cX5_clause 44 = .ok (.iconst 0, 1) := by decide +kernel
theorem dX5_clause_45 : decode cX5_clause 45 = .ok (.istore_n 1, 1) := by decide +kernel
theorem dX5_clause_46 : decode cX5_clause 46 = .ok (.aload_n 0, 1) := by decide +kernel
theorem dX5_clause_47 : decode cX5_clause 47 = .ok (.iload_n 1, 1) := by decide +kernel
theorem dX5_clause_48 : decode cX5_clause 48 = .ok (.ifCond .eq 8, 3) := by decide +kernel
theorem dX5_clause_51 : decode cX5_clause 51 = .ok (.ldc 72, 2) := by decide +kernel
theorem dX5_clause_53 : decode cX5_clause 53 = .ok (.goto 5, 3) := by decide +kernel
theorem dX5_clause_56 : decode cX5_clause 56 = .ok (.ldc 74, 2) := by decide +kernel
theorem dX5_clause_58 : decode cX5_clause 58 = .ok (.invokevirtual 57, 3) := by decide +kernel
theorem dX5_clause_61 : decode cX5_clause 61 = .ok (.iload_n 1, 1) := by decide +kernel
theorem dX5_clause_62 : decode cX5_clause 62 = .ok (.ifCond .eq 10, 3) := by decide +kernel
theorem dX5_clause_65 : decode cX5_clause 65 = .ok (.aload_n 0, 1) := by decide +kernel
theorem dX5_clause_66 : decode cX5_clause 66 = .ok (.invokevirtual 61, 3) := by decide +kernel
theorem dX5_clause_69 : decode cX5_clause 69 = .ok (.goto 8, 3) := by decide +kernel
theorem dX5_clause_72 : decode cX5_clause 72 = .ok (.aload_n 0, 1) := by decide +kernel
theorem dX5_clause_73 : decode cX5_clause 73 = .ok (.invokevirtual 61, 3) := by decide +kernel
theorem dX5_clause_76 : decode cX5_clause 76 = .ok (.ineg, 1) := by decide +kernel
theorem dX5_clause_77 : decode cX5_clause 77 = .ok (.istore_n 2, 1) := by decide +kernel
theorem dX5_clause_78 : decode cX5_clause 78 = .ok (.aload_n 0, 1) := by decide +kernel
theorem dX5_clause_79 : decode cX5_clause 79 = .ok (.bipush 32, 2) := by decide +kernel
theorem dX5_clause_81 : decode cX5_clause 81 = .ok (.invokevirtual 51, 3) := by decide +kernel
theorem dX5_clause_84 : decode cX5_clause 84 = .ok (.aload_n 0, 1) := by decide +kernel
theorem dX5_clause_85 : decode cX5_clause 85 = .ok (.iconst 0, 1) := by decide +kernel
theorem dX5_clause_86 : decode cX5_clause 86 = .ok (.invokevirtual 76, 3) := by decide +kernel
theorem dX5_clause_89 : decode cX5_clause 89 = .ok (.aload_n 0, 1) := by decide +kernel
theorem dX5_clause_90 : decode cX5_clause 90 = .ok (.getfield 27, 3) := by decide +kernel
theorem dX5_clause_93 : decode cX5_clause 93 = .ok (.iload_n 2, 1) := by decide +kernel
theorem dX5_clause_94 : decode cX5_clause 94 = .ok (.invokevirtual 80, 3) := by decide +kernel
theorem dX5_clause_97 : decode cX5_clause 97 = .ok (.return_, 1) := by decide +kernel
theorem dX5_number_0 : decode cX5_number 0 = .ok (.aload_n 0, 1) := by decide +kernel
theorem dX5_number_1 : decode cX5_number 1 = .ok (.getfield 23, 3) := by decide +kernel
theorem dX5_number_4 : decode cX5_number 4 = .ok (.ifCond .ne 10, 3) := by decide +kernel
theorem dX5_number_7 : decode cX5_number 7 = .ok (.aload_n 0, 1) := by decide +kernel
theorem dX5_number_8 : decode cX5_number 8 = .ok (.invokevirtual 83, 3) := by decide +kernel
theorem dX5_number_11 : decode cX5_number 11 = .ok (.ifCond .ne 10, 3) := by decide +kernel
theorem dX5_number_14 : decode cX5_number 14 = .ok (.aload_n 0, 1) := by decide +kernel
theorem dX5_number_15 : decode cX5_number 15 = .ok (.iconst 1, 1) := by decide +kernel
theorem dX5_number_16 : decode cX5_number 16 = .ok (.putfield 23, 3) := by decide +kernel
theorem dX5_number_19 : decode cX5_number 19 = .ok (.iconst 0, 1) := by decide +kernel
theorem dX5_number_20 : decode cX5_number 20 = .ok (.ireturn, 1) := by decide +kernel
theorem dX5_number_21 : decode cX5_number 21 = .ok (.aload_n 0, 1) := by decide +kernel
theorem dX5_number_22 : decode cX5_number 22 = .ok (.getfield 20, 3) := by decide +kernel
theorem dX5_number_25 : decode cX5_number 25 = .ok (.bipush 48, 2) := by decide +kernel
theorem dX5_number_27 : decode cX5_number 27 = .ok (.isub, 1) := by decide +kernel
theorem dX5_number_28 : decode cX5_number 28 = .ok (.istore_n 1, 1) := by decide +kernel
theorem dX5_number_29 : decode cX5_number 29 = .ok (.aload_n 0, 1) := by decide +kernel
theorem dX5_number_30 : decode cX5_number 30 = .ok (.invokevirtual 36, 3) := by decide +kernel
theorem dX5_number_33 : decode cX5_number 33 = .ok (.aload_n 0, 1) := by decide +kernel
theorem dX5_number_34 : decode cX5_number 34 = .ok (.invokevirtual 83, 3) := by decide +kernel
theorem dX5_number_37 : decode cX5_number 37 = .ok (.ifCond .eq 20, 3) := by decide +kernel
theorem dX5_number_40 : decode cX5_number 40 = .ok (.iload_n 1, 1) := by decide +kernel
theorem dX5_number_41 : decode cX5_number 41 = .ok (.bipush 10, 2) := by decide +kernel
theorem dX5_number_43 : decode cX5_number 43 = .ok (.imul, 1) := by decide +kernel
theorem dX5_number_44 : decode cX5_number 44 = .ok (.aload_n 0, 1) := by decide +kernel
theorem dX5_number_45 : decode cX5_number 45 = .ok (.getfield 20, 3) := by decide +kernel
theorem dX5_number_48 : decode cX5_number 48 = .ok (.iadd, 1) := by decide +kernel
theorem dX5_number_49 : decode cX5_number 49 = .ok (.bipush 48, 2) := by decide +kernel
theorem dX5_number_51 : decode cX5_number 51 = .ok (.isub, 1) := by decide +kernel
theorem dX5_number_52 : decode cX5_number 52 = .ok (.istore_n 1, 1) := by decide +kernel
theorem dX5_number_53 : decode cX5_number 53 = .ok (.aload_n 0, 1) := by decide +kernel
theorem dX5_number_54 : decode cX5_number 54 = .ok (.invokevirtual 36, 3) := by decide +kernel
theorem dX5_number_57 : decode cX5_number 57 = .ok (.iload_n 1, 1) := by decide +kernel
theorem dX5_number_58 : decode cX5_number 58 = .ok (.ireturn, 1) := by decide +kernel
theorem dX5_isDigit_0 : decode cX5_isDigit 0 = .ok (.aload_n 0, 1) := by decide +kernel
theorem dX5_isDigit_1 : decode cX5_isDigit 1 = .ok (.getfield 20, 3) := by decide +kernel
theorem dX5_isDigit_4 : decode cX5_isDigit 4 = .ok (.bipush 48, 2) := by decide +kernel
theorem dX5_isDigit_6 : decode cX5_isDigit 6 = .ok (.if_icmp .lt 16, 3) := by decide +kernel
theorem dX5_isDigit_9 : decode cX5_isDigit 9 = .ok (.aload_n 0, 1) := by decide +kernel
theorem dX5_isDigit_10 : decode cX5_isDigit 10 = .ok (.getfield 20, 3) := by decide +kernel
theorem dX5_isDigit_13 : decode cX5_isDigit 13 = .ok (.bipush 57, 2) := by decide +kernel
theorem dX5_isDigit_15 : decode cX5_isDigit 15 = .ok (.if_icmp .gt 7, 3) := by decide +kernel
theorem dX5_isDigit_18 : decode cX5_isDigit 18 = .ok (.iconst 1, 1) := by decide +kernel
theorem dX5_isDigit_19 : decode cX5_isDigit 19 = .ok (.goto 4, 3) := by decide +kernel
theorem dX5_isDigit_22 : decode cX5_isDigit 22 = .ok (.iconst 0, 1) := by decide +kernel
theorem dX5_isDigit_23 : decode cX5_isDigit 23 = .ok (.ireturn, 1) := by decide +kernel
theorem dX5_either_0 : decode cX5_either 0 = .ok (.aload_n 0, 1) := by decide +kernel
theorem dX5_either_1 : decode cX5_either 1 = .ok (.iload_n 1, 1) := by decide +kernel
theorem dX5_either_2 : decode cX5_either 2 = .ok (.invokevirtual 87, 3) := by decide +kernel
theorem dX5_either_5 : decode cX5_either 5 = .ok (.iconst 0, 1) := by decide +kernel
theorem dX5_either_6 : decode cX5_either 6 = .ok (.istore_n 2, 1) := by decide +kernel
theorem dX5_either_7 : decode cX5_either 7 = .ok (.iload_n 2, 1) := by decide +kernel
theorem dX5_either_8 : decode cX5_either 8 = .ok (.bipush 100, 2) := by decide +kernel
theorem dX5_either_10 : decode cX5_either 10 = .ok (.if_icmp .ge 43, 3) := by decide +kernel
theorem dX5_either_13 : decode cX5_either 13 = .ok (.aload_n 0, 1) := by decide +kernel
theorem dX5_either_14 : decode cX5_either 14 = .ok (.getfield 23, 3) := by decide +kernel
theorem dX5_either_17 : decode cX5_either 17 = .ok (.ifCond .ne 36, 3) := by decide +kernel
theorem dX5_either_20 : decode cX5_either 20 = .ok (.aload_n 0, 1) := by decide +kernel
theorem dX5_either_21 : decode cX5_either 21 = .ok (.getfield 20, 3) := by decide +kernel
theorem dX5_either_24 : decode cX5_either 24 = .ok (.bipush 124, 2) := by decide +kernel
theorem dX5_either_26 : decode cX5_either 26 = .ok (.if_icmp .ne 27, 3) := by decide +kernel
theorem dX5_either_29 : decode cX5_either 29 = .ok (.aload_n 0, 1) := by decide +kernel
theorem dX5_either_30 : decode cX5_either 30 = .ok (.invokevirtual 36, 3) := by decide +kernel
theorem dX5_either_33 : decode cX5_either 33 = .ok (.aload_n 0, 1) := by decide +kernel
theorem dX5_either_34 : decode cX5_either 34 = .ok (.iload_n 1, 1) := by decide +kernel
theorem dX5_either_35 : decode cX5_either 35 = .ok (.invokevirtual 87, 3) := by decide +kernel
theorem dX5_either_38 : decode cX5_either 38 = .ok (.aload_n 0, 1) := by decide +kernel
theorem dX5_either_39 : decode cX5_either 39 = .ok (.getfield 27, 3) := by decide +kernel
theorem dX5_either_42 : decode cX5_either 42 = .ok (.bipush (-3), 2) := by decide +kernel
theorem dX5_either_44 : decode cX5_either 44 = .ok (.invokevirtual 90, 3) := by decide +kernel
theorem dX5_either_47 : decode cX5_either 47 = .ok (.iinc 2 1, 3) := by decide +kernel
theorem dX5_either_50 : decode cX5_either 50 = .ok (.goto (-43), 3) := by decide +kernel
theorem dX5_either_53 : decode cX5_either 53 = .ok (.return_, 1) := by decide +kernel
theorem dX5_both_0 : decode cX5_both 0 = .ok (.aload_n 0, 1) := by decide +kernel
theorem dX5_both_1 : decode cX5_both 1 = .ok (.iload_n 1, 1) := by decide +kernel
theorem dX5_both_2 : decode cX5_both 2 = .ok (.invokevirtual 93, 3) := by decide +kernel
theorem dX5_both_5 : decode cX5_both 5 = .ok (.iconst 0, 1) := by decide +kernel
theorem dX5_both_6 : decode cX5_both 6 = .ok (.istore_n 2, 1) := by decide +kernel
theorem dX5_both_7 : decode cX5_both 7 = .ok (.iload_n 2, 1) := by decide +kernel
theorem dX5_both_8 : decode cX5_both 8 = .ok (.bipush 100, 2) := by decide +kernel
theorem dX5_both_10 : decode cX5_both 10 = .ok (.if_icmp .ge 43, 3) := by decide +kernel
theorem dX5_both_13 : decode cX5_both 13 = .ok (.aload_n 0, 1) := by decide +kernel
theorem dX5_both_14 : decode cX5_both 14 = .ok (.getfield 23, 3) := by decide +kernel
theorem dX5_both_17 : decode cX5_both 17 = .ok (.ifCond .ne 36, 3) := by decide +kernel
theorem dX5_both_20 : decode cX5_both 20 = .ok (.aload_n 0, 1) := by decide +kernel
theorem dX5_both_21 : decode cX5_both 21 = .ok (.getfield 20, 3) := by decide +kernel
theorem dX5_both_24 : decode cX5_both 24 = .ok (.bipush 38, 2) := by decide +kernel
theorem dX5_both_26 : decode cX5_both 26 = .ok (.if_icmp .ne 27, 3) := by decide +kernel
theorem dX5_both_29 : decode cX5_both 29 = .ok (.aload_n 0, 1) := by decide +kernel
theorem dX5_both_30 : decode cX5_both 30 = .ok (.invokevirtual 36, 3) := by decide +kernel
theorem dX5_both_33 : decode cX5_both 33 = .ok (.aload_n 0, 1) := by decide +kernel
theorem dX5_both_34 : decode cX5_both 34 = .ok (.iload_n 1, 1) := by decide +kernel
theorem dX5_both_35 : decode cX5_both 35 = .ok (.invokevirtual 93, 3) := by decide +kernel
theorem dX5_both_38 : decode cX5_both 38 = .ok (.aload_n 0, 1) := by decide +kernel
theorem dX5_both_39 : decode cX5_both 39 = .ok (.getfield 27, 3) := by decide +kernel
theorem dX5_both_42 : decode cX5_both 42 = .ok (.bipush (-2), 2) := by decide +kernel
theorem dX5_both_44 : decode cX5_both 44 = .ok (.invokevirtual 90, 3) := by decide +kernel
theorem dX5_both_47 : decode cX5_both 47 = .ok (.iinc 2 1, 3) := by decide +kernel
theorem dX5_both_50 : decode cX5_both 50 = .ok (.goto (-43), 3) := by decide +kernel
theorem dX5_both_53 : decode cX5_both 53 = .ok (.return_, 1) := by decide +kernel
theorem dX5_factor_0 : decode cX5_factor 0 = .ok (.aload_n 0, 1) := by decide +kernel
theorem dX5_factor_1 : decode cX5_factor 1 = .ok (.getfield 23, 3) := by decide +kernel
theorem dX5_factor_4 : decode cX5_factor 4 = .ok (.ifCond .eq 4, 3) := by decide +kernel
theorem dX5_factor_7 : decode cX5_factor 7 = .ok (.return_, 1) := by decide +kernel
theorem dX5_factor_8 : decode cX5_factor 8 = .ok (.aload_n 0, 1) := by decide +kernel
theorem dX5_factor_9 : decode cX5_factor 9 = .ok (.getfield 20, 3) := by decide +kernel
theorem dX5_factor_12 : decode cX5_factor 12 = .ok (.bipush 33, 2) := by decide +kernel
theorem dX5_factor_14 : decode cX5_factor 14 = .ok (.if_icmp .ne 30, 3) := by decide +kernel
theorem dX5_factor_17 : decode cX5_factor 17 = .ok (.iload_n 1, 1) := by decide +kernel
theorem dX5_factor_18 : decode cX5_factor 18 = .ok (.iconst 4, 1) := by decide +kernel
theorem dX5_factor_19 : decode cX5_factor 19 = .ok (.if_icmp .ge 25, 3) := by decide +kernel
theorem dX5_factor_22 : decode cX5_factor 22 = .ok (.aload_n 0, 1) := by decide +kernel
theorem dX5_factor_23 : decode cX5_factor 23 = .ok (.invokevirtual 36, 3) := by decide +kernel
theorem dX5_factor_26 : decode cX5_factor 26 = .ok (.aload_n 0, 1) := by decide +kernel
theorem dX5_factor_27 : decode cX5_factor 27 = .ok (.iload_n 1, 1) := by decide +kernel
theorem dX5_factor_28 : decode cX5_factor 28 = .ok (.iconst 1, 1) := by decide +kernel
theorem dX5_factor_29 : decode cX5_factor 29 = .ok (.iadd, 1) := by decide +kernel
theorem dX5_factor_30 : decode cX5_factor 30 = .ok (.invokevirtual 93, 3) := by decide +kernel
theorem dX5_factor_33 : decode cX5_factor 33 = .ok (.aload_n 0, 1) := by decide +kernel
theorem dX5_factor_34 : decode cX5_factor 34 = .ok (.getfield 27, 3) := by decide +kernel
theorem dX5_factor_37 : decode cX5_factor 37 = .ok (.iconst (-1), 1) := by decide +kernel
theorem dX5_factor_38 : decode cX5_factor 38 = .ok (.invokevirtual 90, 3) := by decide +kernel
theorem dX5_factor_41 : decode cX5_factor 41 = .ok (.goto 67, 3) := by decide +kernel
theorem dX5_factor_44 : decode cX5_factor 44 = .ok (.aload_n 0, 1) := by decide +kernel
theorem dX5_factor_45 : decode cX5_factor 45 = .ok (.getfield 20, 3) := by decide +kernel
theorem dX5_factor_48 : decode cX5_factor 48 = .ok (.bipush 40, 2) := by decide +kernel
theorem dX5_factor_50 : decode cX5_factor 50 = .ok (.if_icmp .ne 28, 3) := by decide +kernel
theorem dX5_factor_53 : decode cX5_factor 53 = .ok (.iload_n 1, 1) := by decide +kernel
theorem dX5_factor_54 : decode cX5_factor 54 = .ok (.iconst 4, 1) := by decide +kernel
theorem dX5_factor_55 : decode cX5_factor 55 = .ok (.if_icmp .ge 23, 3) := by decide +kernel
theorem dX5_factor_58 : decode cX5_factor 58 = .ok (.aload_n 0, 1) := by decide +kernel
theorem dX5_factor_59 : decode cX5_factor 59 = .ok (.invokevirtual 36, 3) := by decide +kernel
theorem dX5_factor_62 : decode cX5_factor 62 = .ok (.aload_n 0, 1) := by decide +kernel
theorem dX5_factor_63 : decode cX5_factor 63 = .ok (.iload_n 1, 1) := by decide +kernel
theorem dX5_factor_64 : decode cX5_factor 64 = .ok (.iconst 1, 1) := by decide +kernel
theorem dX5_factor_65 : decode cX5_factor 65 = .ok (.iadd, 1) := by decide +kernel
theorem dX5_factor_66 : decode cX5_factor 66 = .ok (.invokevirtual 76, 3) := by decide +kernel
theorem dX5_factor_69 : decode cX5_factor 69 = .ok (.aload_n 0, 1) := by decide +kernel
theorem dX5_factor_70 : decode cX5_factor 70 = .ok (.bipush 41, 2) := by decide +kernel
theorem dX5_factor_72 : decode cX5_factor 72 = .ok (.invokevirtual 51, 3) := by decide +kernel
theorem dX5_factor_75 : decode cX5_factor 75 = .ok (.goto 33, 3) := by decide +kernel
theorem dX5_factor_78 : decode cX5_factor 78 = .ok (.aload_n 0, 1) := by decide +kernel
theorem dX5_factor_79 : decode cX5_factor 79 = .ok (.ldc 96, 2) := by decide +kernel
theorem dX5_factor_81 : decode cX5_factor 81 = .ok (.invokevirtual 98, 3) := by decide +kernel
theorem dX5_factor_84 : decode cX5_factor 84 = .ok (.istore_n 2, 1) := by decide +kernel
theorem dX5_factor_85 : decode cX5_factor 85 = .ok (.aload_n 0, 1) := by decide +kernel
theorem dX5_factor_86 : decode cX5_factor 86 = .ok (.ldc 102, 2) := by decide +kernel
theorem dX5_factor_88 : decode cX5_factor 88 = .ok (.invokevirtual 98, 3) := by decide +kernel
theorem dX5_factor_91 : decode cX5_factor 91 = .ok (.istore_n 3, 1) := by decide +kernel
theorem dX5_factor_92 : decode cX5_factor 92 = .ok (.aload_n 0, 1) := by decide +kernel
theorem dX5_factor_93 : decode cX5_factor 93 = .ok (.getfield 27, 3) := by decide +kernel
theorem dX5_factor_96 : decode cX5_factor 96 = .ok (.iload_n 2, 1) := by decide +kernel
theorem dX5_factor_97 : decode cX5_factor 97 = .ok (.iload_n 3, 1) := by decide +kernel
theorem dX5_factor_98 : decode cX5_factor 98 = .ok (.aload_n 0, 1) := by decide +kernel
theorem dX5_factor_99 : decode cX5_factor 99 = .ok (.invokevirtual 61, 3) := by decide +kernel
theorem dX5_factor_102 : decode cX5_factor 102 = .ok (.invokestatic 104, 3) := by decide +kernel
theorem dX5_factor_105 : decode cX5_factor 105 = .ok (.invokevirtual 90, 3) := by decide +kernel
theorem dX5_factor_108 : decode cX5_factor 108 = .ok (.return_, 1) := by decide +kernel
theorem dX5_choice_0 : decode cX5_choice 0 = .ok (.aload_n 0, 1) := by decide +kernel
theorem dX5_choice_1 : decode cX5_choice 1 = .ok (.getfield 23, 3) := by decide +kernel
theorem dX5_choice_4 : decode cX5_choice 4 = .ok (.ifCond .ne 11, 3) := by decide +kernel
theorem dX5_choice_7 : decode cX5_choice 7 = .ok (.aload_n 0, 1) := by decide +kernel
theorem dX5_choice_8 : decode cX5_choice 8 = .ok (.getfield 20, 3) := by decide +kernel
theorem dX5_choice_11 : decode cX5_choice 11 = .ok (.iconst (-1), 1) := by decide +kernel
theorem dX5_choice_12 : decode cX5_choice 12 = .ok (.if_icmp .ne 7, 3) := by decide +kernel
theorem dX5_choice_15 : decode cX5_choice 15 = .ok (.iconst (-1), 1) := by decide +kernel
theorem dX5_choice_16 : decode cX5_choice 16 = .ok (.goto 12, 3) := by decide +kernel
theorem dX5_choice_19 : decode cX5_choice 19 = .ok (.aload_n 1, 1) := by decide +kernel
theorem dX5_choice_20 : decode cX5_choice 20 = .ok (.aload_n 0, 1) := by decide +kernel
theorem dX5_choice_21 : decode cX5_choice 21 = .ok (.getfield 20, 3) := by decide +kernel
theorem dX5_choice_24 : decode cX5_choice 24 = .ok (.i2c, 1) := by decide +kernel
theorem dX5_choice_25 : decode cX5_choice 25 = .ok (.invokevirtual 108, 3) := by decide +kernel
theorem dX5_choice_28 : decode cX5_choice 28 = .ok (.istore_n 2, 1) := by decide +kernel
theorem dX5_choice_29 : decode cX5_choice 29 = .ok (.iload_n 2, 1) := by decide +kernel
theorem dX5_choice_30 : decode cX5_choice 30 = .ok (.ifCond .ge 10, 3) := by decide +kernel
theorem dX5_choice_33 : decode cX5_choice 33 = .ok (.aload_n 0, 1) := by decide +kernel
end
section
theorem dX5_choice_34 : decode cX5_choice 34 = .ok (.iconst 1, 1) := by decide +kernel
theorem dX5_choice_35 : decode cX5_choice 35 = .ok (.putfield 23, 3) := by decide +kernel
theorem dX5_choice_38 : decode cX5_choice 38 = .ok (.iconst 0, 1) := by decide +kernel
theorem dX5_choice_39 : decode cX5_choice 39 = .ok (.ireturn, 1) := by decide +kernel
theorem dX5_choice_40 : decode cX5_choice 40 = .ok (.aload_n 0, 1) := by decide +kernel
theorem dX5_choice_41 : decode cX5_choice 41 = .ok (.invokevirtual 36, 3) := by decide +kernel
theorem dX5_choice_44 : decode cX5_choice 44 = .ok (.iload_n 2, 1) := by decide +kernel
theorem dX5_choice_45 : decode cX5_choice 45 = .ok (.ireturn, 1) := by decide +kernel
theorem dX6_init_0 : decode cX6_init 0 = .ok (.aload_n 0, 1) := by decide +kernel
theorem dX6_init_1 : decode cX6_init 1 = .ok (.invokespecial 3, 3) := by decide +kernel
theorem dX6_init_4 : decode cX6_init 4 = .ok (.aload_n 0, 1) := by decide +kernel
theorem dX6_init_5 : decode cX6_init 5 = .ok (.iconst 0, 1) := by decide +kernel
theorem dX6_init_6 : decode cX6_init 6 = .ok (.putfield 9, 3) := by decide +kernel
theorem dX6_init_9 : decode cX6_init 9 = .ok (.aload_n 0, 1) := by decide +kernel
theorem dX6_init_10 : decode cX6_init 10 = .ok (.iload_n 1, 1) := by decide +kernel
theorem dX6_init_11 : decode cX6_init 11 = .ok (.putfield 15, 3) := by decide +kernel
theorem dX6_init_14 : decode cX6_init 14 = .ok (.aload_n 0, 1) := by decide +kernel
theorem dX6_init_15 : decode cX6_init 15 = .ok (.iload_n 1, 1) := by decide +kernel
theorem dX6_init_16 : decode cX6_init 16 = .ok (.iconst 3, 1) := by decide +kernel
theorem dX6_init_17 : decode cX6_init 17 = .ok (.imul, 1) := by decide +kernel
theorem dX6_init_18 : decode cX6_init 18 = .ok (.newarray .int, 2) := by decide +kernel
theorem dX6_init_20 : decode cX6_init 20 = .ok (.putfield 18, 3) := by decide +kernel
theorem dX6_init_23 : decode cX6_init 23 = .ok (.return_, 1) := by decide +kernel
theorem dX6_empty_0 : decode cX6_empty 0 = .ok (.aload_n 0, 1) := by decide +kernel
theorem dX6_empty_1 : decode cX6_empty 1 = .ok (.iconst 0, 1) := by decide +kernel
theorem dX6_empty_2 : decode cX6_empty 2 = .ok (.putfield 9, 3) := by decide +kernel
theorem dX6_empty_5 : decode cX6_empty 5 = .ok (.iconst 0, 1) := by decide +kernel
theorem dX6_empty_6 : decode cX6_empty 6 = .ok (.ireturn, 1) := by decide +kernel
theorem dX6_put_0 : decode cX6_put 0 = .ok (.aload_n 0, 1) := by decide +kernel
theorem dX6_put_1 : decode cX6_put 1 = .ok (.getfield 9, 3) := by decide +kernel
theorem dX6_put_4 : decode cX6_put 4 = .ok (.aload_n 0, 1) := by decide +kernel
theorem dX6_put_5 : decode cX6_put 5 = .ok (.getfield 15, 3) := by decide +kernel
theorem dX6_put_8 : decode cX6_put 8 = .ok (.if_icmp .lt 6, 3) := by decide +kernel
theorem dX6_put_11 : decode cX6_put 11 = .ok (.bipush (-4), 2) := by decide +kernel
theorem dX6_put_13 : decode cX6_put 13 = .ok (.ireturn, 1) := by decide +kernel
theorem dX6_put_14 : decode cX6_put 14 = .ok (.aload_n 0, 1) := by decide +kernel
theorem dX6_put_15 : decode cX6_put 15 = .ok (.getfield 18, 3) := by decide +kernel
theorem dX6_put_18 : decode cX6_put 18 = .ok (.aload_n 0, 1) := by decide +kernel
theorem dX6_put_19 : decode cX6_put 19 = .ok (.getfield 9, 3) := by decide +kernel
theorem dX6_put_22 : decode cX6_put 22 = .ok (.iconst 3, 1) := by decide +kernel
theorem dX6_put_23 : decode cX6_put 23 = .ok (.imul, 1) := by decide +kernel
theorem dX6_put_24 : decode cX6_put 24 = .ok (.iload_n 1, 1) := by decide +kernel
theorem dX6_put_25 : decode cX6_put 25 = .ok (.iastore, 1) := by decide +kernel
theorem dX6_put_26 : decode cX6_put 26 = .ok (.aload_n 0, 1) := by decide +kernel
theorem dX6_put_27 : decode cX6_put 27 = .ok (.getfield 18, 3) := by decide +kernel
theorem dX6_put_30 : decode cX6_put 30 = .ok (.aload_n 0, 1) := by decide +kernel
theorem dX6_put_31 : decode cX6_put 31 = .ok (.getfield 9, 3) := by decide +kernel
theorem dX6_put_34 : decode cX6_put 34 = .ok (.iconst 3, 1) := by decide +kernel
theorem dX6_put_35 : decode cX6_put 35 = .ok (.imul, 1) := by decide +kernel
theorem dX6_put_36 : decode cX6_put 36 = .ok (.iconst 1, 1) := by decide +kernel
theorem dX6_put_37 : decode cX6_put 37 = .ok (.iadd, 1) := by decide +kernel
theorem dX6_put_38 : decode cX6_put 38 = .ok (.iload_n 2, 1) := by decide +kernel
theorem dX6_put_39 : decode cX6_put 39 = .ok (.iastore, 1) := by decide +kernel
theorem dX6_put_40 : decode cX6_put 40 = .ok (.aload_n 0, 1) := by decide +kernel
theorem dX6_put_41 : decode cX6_put 41 = .ok (.getfield 18, 3) := by decide +kernel
theorem dX6_put_44 : decode cX6_put 44 = .ok (.aload_n 0, 1) := by decide +kernel
theorem dX6_put_45 : decode cX6_put 45 = .ok (.getfield 9, 3) := by decide +kernel
theorem dX6_put_48 : decode cX6_put 48 = .ok (.iconst 3, 1) := by decide +kernel
theorem dX6_put_49 : decode cX6_put 49 = .ok (.imul, 1) := by decide +kernel
theorem dX6_put_50 : decode cX6_put 50 = .ok (.iconst 2, 1) := by decide +kernel
theorem dX6_put_51 : decode cX6_put 51 = .ok (.iadd, 1) := by decide +kernel
theorem dX6_put_52 : decode cX6_put 52 = .ok (.iload_n 3, 1) := by decide +kernel
theorem dX6_put_53 : decode cX6_put 53 = .ok (.iastore, 1) := by decide +kernel
theorem dX6_put_54 : decode cX6_put 54 = .ok (.aload_n 0, 1) := by decide +kernel
theorem dX6_put_55 : decode cX6_put 55 = .ok (.dup, 1) := by decide +kernel
theorem dX6_put_56 : decode cX6_put 56 = .ok (.getfield 9, 3) := by decide +kernel
theorem dX6_put_59 : decode cX6_put 59 = .ok (.iconst 1, 1) := by decide +kernel
theorem dX6_put_60 : decode cX6_put 60 = .ok (.iadd, 1) := by decide +kernel
theorem dX6_put_61 : decode cX6_put 61 = .ok (.putfield 9, 3) := by decide +kernel
theorem dX6_put_64 : decode cX6_put 64 = .ok (.aload_n 0, 1) := by decide +kernel
theorem dX6_put_65 : decode cX6_put 65 = .ok (.getfield 9, 3) := by decide +kernel
theorem dX6_put_68 : decode cX6_put 68 = .ok (.ireturn, 1) := by decide +kernel
theorem dX6_cell_0 : decode cX6_cell 0 = .ok (.aload_n 0, 1) := by decide +kernel
theorem dX6_cell_1 : decode cX6_cell 1 = .ok (.getfield 18, 3) := by decide +kernel
theorem dX6_cell_4 : decode cX6_cell 4 = .ok (.iload_n 1, 1) := by decide +kernel
theorem dX6_cell_5 : decode cX6_cell 5 = .ok (.iconst 3, 1) := by decide +kernel
theorem dX6_cell_6 : decode cX6_cell 6 = .ok (.imul, 1) := by decide +kernel
theorem dX6_cell_7 : decode cX6_cell 7 = .ok (.iload_n 2, 1) := by decide +kernel
theorem dX6_cell_8 : decode cX6_cell 8 = .ok (.iadd, 1) := by decide +kernel
theorem dX6_cell_9 : decode cX6_cell 9 = .ok (.iaload, 1) := by decide +kernel
theorem dX6_cell_10 : decode cX6_cell 10 = .ok (.ireturn, 1) := by decide +kernel
theorem dX6_copyFrom_0 : decode cX6_copyFrom 0 = .ok (.aload_n 1, 1) := by decide +kernel
theorem dX6_copyFrom_1 : decode cX6_copyFrom 1 = .ok (.getfield 18, 3) := by decide +kernel
theorem dX6_copyFrom_4 : decode cX6_copyFrom 4 = .ok (.iconst 0, 1) := by decide +kernel
theorem dX6_copyFrom_5 : decode cX6_copyFrom 5 = .ok (.aload_n 0, 1) := by decide +kernel
theorem dX6_copyFrom_6 : decode cX6_copyFrom 6 = .ok (.getfield 18, 3) := by decide +kernel
theorem dX6_copyFrom_9 : decode cX6_copyFrom 9 = .ok (.iconst 0, 1) := by decide +kernel
theorem dX6_copyFrom_10 : decode cX6_copyFrom 10 = .ok (.aload_n 0, 1) := by decide +kernel
theorem dX6_copyFrom_11 : decode cX6_copyFrom 11 = .ok (.getfield 18, 3) := by decide +kernel
theorem dX6_copyFrom_14 : decode cX6_copyFrom 14 = .ok (.arraylength, 1) := by decide +kernel
theorem dX6_copyFrom_15 : decode cX6_copyFrom 15 = .ok (.invokestatic 22, 3) := by decide +kernel
theorem dX6_copyFrom_18 : decode cX6_copyFrom 18 = .ok (.aload_n 0, 1) := by decide +kernel
theorem dX6_copyFrom_19 : decode cX6_copyFrom 19 = .ok (.aload_n 1, 1) := by decide +kernel
theorem dX6_copyFrom_20 : decode cX6_copyFrom 20 = .ok (.getfield 9, 3) := by decide +kernel
theorem dX6_copyFrom_23 : decode cX6_copyFrom 23 = .ok (.putfield 9, 3) := by decide +kernel
theorem dX6_copyFrom_26 : decode cX6_copyFrom 26 = .ok (.return_, 1) := by decide +kernel
theorem dX7_init_0 : decode cX7_init 0 = .ok (.aload_n 0, 1) := by decide +kernel
theorem dX7_init_1 : decode cX7_init 1 = .ok (.invokespecial 5, 3) := by decide +kernel
theorem dX7_init_4 : decode cX7_init 4 = .ok (.aload_n 0, 1) := by decide +kernel
theorem dX7_init_5 : decode cX7_init 5 = .ok (.iconst 0, 1) := by decide +kernel
theorem dX7_init_6 : decode cX7_init 6 = .ok (.putfield 11, 3) := by decide +kernel
theorem dX7_init_9 : decode cX7_init 9 = .ok (.aload_n 0, 1) := by decide +kernel
theorem dX7_init_10 : decode cX7_init 10 = .ok (.bipush 6, 2) := by decide +kernel
theorem dX7_init_12 : decode cX7_init 12 = .ok (.newarray .int, 2) := by decide +kernel
theorem dX7_init_14 : decode cX7_init 14 = .ok (.putfield 15, 3) := by decide +kernel
theorem dX7_init_17 : decode cX7_init 17 = .ok (.aload_n 0, 1) := by decide +kernel
theorem dX7_init_18 : decode cX7_init 18 = .ok (.bipush 6, 2) := by decide +kernel
theorem dX7_init_20 : decode cX7_init 20 = .ok (.newarray .int, 2) := by decide +kernel
theorem dX7_init_22 : decode cX7_init 22 = .ok (.putfield 19, 3) := by decide +kernel
theorem dX7_init_25 : decode cX7_init 25 = .ok (.aload_n 0, 1) := by decide +kernel
theorem dX7_init_26 : decode cX7_init 26 = .ok (.bipush 24, 2) := by decide +kernel
theorem dX7_init_28 : decode cX7_init 28 = .ok (.newarray .int, 2) := by decide +kernel
theorem dX7_init_30 : decode cX7_init 30 = .ok (.putfield 22, 3) := by decide +kernel
theorem dX7_init_33 : decode cX7_init 33 = .ok (.aload_n 0, 1) := by decide +kernel
theorem dX7_init_34 : decode cX7_init 34 = .ok (.sipush 606, 3) := by decide +kernel
theorem dX7_init_37 : decode cX7_init 37 = .ok (.newarray .int, 2) := by decide +kernel
theorem dX7_init_39 : decode cX7_init 39 = .ok (.putfield 25, 3) := by decide +kernel
theorem dX7_init_42 : decode cX7_init 42 = .ok (.aload_n 0, 1) := by decide +kernel
theorem dX7_init_43 : decode cX7_init 43 = .ok (.new 28, 3) := by decide +kernel
theorem dX7_init_46 : decode cX7_init 46 = .ok (.dup, 1) := by decide +kernel
theorem dX7_init_47 : decode cX7_init 47 = .ok (.invokespecial 30, 3) := by decide +kernel
theorem dX7_init_50 : decode cX7_init 50 = .ok (.putfield 31, 3) := by decide +kernel
theorem dX7_init_53 : decode cX7_init 53 = .ok (.aload_n 0, 1) := by decide +kernel
theorem dX7_init_54 : decode cX7_init 54 = .ok (.new 35, 3) := by decide +kernel
theorem dX7_init_57 : decode cX7_init 57 = .ok (.dup, 1) := by decide +kernel
theorem dX7_init_58 : decode cX7_init 58 = .ok (.iconst 5, 1) := by decide +kernel
theorem dX7_init_59 : decode cX7_init 59 = .ok (.invokespecial 37, 3) := by decide +kernel
theorem dX7_init_62 : decode cX7_init 62 = .ok (.putfield 40, 3) := by decide +kernel
theorem dX7_init_65 : decode cX7_init 65 = .ok (.aload_n 0, 1) := by decide +kernel
theorem dX7_init_66 : decode cX7_init 66 = .ok (.new 35, 3) := by decide +kernel
theorem dX7_init_69 : decode cX7_init 69 = .ok (.dup, 1) := by decide +kernel
theorem dX7_init_70 : decode cX7_init 70 = .ok (.bipush 10, 2) := by decide +kernel
theorem dX7_init_72 : decode cX7_init 72 = .ok (.invokespecial 37, 3) := by decide +kernel
theorem dX7_init_75 : decode cX7_init 75 = .ok (.putfield 44, 3) := by decide +kernel
theorem dX7_init_78 : decode cX7_init 78 = .ok (.aload_n 0, 1) := by decide +kernel
theorem dX7_init_79 : decode cX7_init 79 = .ok (.new 35, 3) := by decide +kernel
theorem dX7_init_82 : decode cX7_init 82 = .ok (.dup, 1) := by decide +kernel
theorem dX7_init_83 : decode cX7_init 83 = .ok (.bipush 8, 2) := by decide +kernel
theorem dX7_init_85 : decode cX7_init 85 = .ok (.invokespecial 37, 3) := by decide +kernel
theorem dX7_init_88 : decode cX7_init 88 = .ok (.putfield 47, 3) := by decide +kernel
theorem dX7_init_91 : decode cX7_init 91 = .ok (.aload_n 0, 1) := by decide +kernel
theorem dX7_init_92 : decode cX7_init 92 = .ok (.bipush 6, 2) := by decide +kernel
theorem dX7_init_94 : decode cX7_init 94 = .ok (.newarray .int, 2) := by decide +kernel
theorem dX7_init_96 : decode cX7_init 96 = .ok (.putfield 50, 3) := by decide +kernel
theorem dX7_init_99 : decode cX7_init 99 = .ok (.aload_n 0, 1) := by decide +kernel
theorem dX7_init_100 : decode cX7_init 100 = .ok (.aconst_null, 1) := by decide +kernel
theorem dX7_init_101 : decode cX7_init 101 = .ok (.putfield 53, 3) := by decide +kernel
theorem dX7_init_104 : decode cX7_init 104 = .ok (.return_, 1) := by decide +kernel
theorem dX7_copyFrom_0 : decode cX7_copyFrom 0 = .ok (.aload_n 0, 1) := by decide +kernel
theorem dX7_copyFrom_1 : decode cX7_copyFrom 1 = .ok (.aload_n 1, 1) := by decide +kernel
theorem dX7_copyFrom_2 : decode cX7_copyFrom 2 = .ok (.getfield 11, 3) := by decide +kernel
theorem dX7_copyFrom_5 : decode cX7_copyFrom 5 = .ok (.putfield 11, 3) := by decide +kernel
theorem dX7_copyFrom_8 : decode cX7_copyFrom 8 = .ok (.aload_n 1, 1) := by decide +kernel
theorem dX7_copyFrom_9 : decode cX7_copyFrom 9 = .ok (.getfield 15, 3) := by decide +kernel
theorem dX7_copyFrom_12 : decode cX7_copyFrom 12 = .ok (.iconst 0, 1) := by decide +kernel
theorem dX7_copyFrom_13 : decode cX7_copyFrom 13 = .ok (.aload_n 0, 1) := by decide +kernel
theorem dX7_copyFrom_14 : decode cX7_copyFrom 14 = .ok (.getfield 15, 3) := by decide +kernel
theorem dX7_copyFrom_17 : decode cX7_copyFrom 17 = .ok (.iconst 0, 1) := by decide +kernel
theorem dX7_copyFrom_18 : decode cX7_copyFrom 18 = .ok (.bipush 6, 2) := by decide +kernel
theorem dX7_copyFrom_20 : decode cX7_copyFrom 20 = .ok (.invokestatic 57, 3) := by decide +kernel
theorem dX7_copyFrom_23 : decode cX7_copyFrom 23 = .ok (.aload_n 1, 1) := by decide +kernel
theorem dX7_copyFrom_24 : decode cX7_copyFrom 24 = .ok (.getfield 19, 3) := by decide +kernel
theorem dX7_copyFrom_27 : decode cX7_copyFrom 27 = .ok (.iconst 0, 1) := by decide +kernel
theorem dX7_copyFrom_28 : decode cX7_copyFrom 28 = .ok (.aload_n 0, 1) := by decide +kernel
theorem dX7_copyFrom_29 : decode cX7_copyFrom 29 = .ok (.getfield 19, 3) := by decide +kernel
theorem dX7_copyFrom_32 : decode cX7_copyFrom 32 = .ok (.iconst 0, 1) := by decide +kernel
theorem dX7_copyFrom_33 : decode cX7_copyFrom 33 = .ok (.bipush 6, 2) := by decide +kernel
theorem dX7_copyFrom_35 : decode cX7_copyFrom 35 = .ok (.invokestatic 57, 3) := by decide +kernel
theorem dX7_copyFrom_38 : decode cX7_copyFrom 38 = .ok (.aload_n 1, 1) := by decide +kernel
theorem dX7_copyFrom_39 : decode cX7_copyFrom 39 = .ok (.getfield 22, 3) := by decide +kernel
theorem dX7_copyFrom_42 : decode cX7_copyFrom 42 = .ok (.iconst 0, 1) := by decide +kernel
theorem dX7_copyFrom_43 : decode cX7_copyFrom 43 = .ok (.aload_n 0, 1) := by decide +kernel
theorem dX7_copyFrom_44 : decode cX7_copyFrom 44 = .ok (.getfield 22, 3) := by decide +kernel
theorem dX7_copyFrom_47 : decode cX7_copyFrom 47 = .ok (.iconst 0, 1) := by decide +kernel
theorem dX7_copyFrom_48 : decode cX7_copyFrom 48 = .ok (.aload_n 0, 1) := by decide +kernel
theorem dX7_copyFrom_49 : decode cX7_copyFrom 49 = .ok (.getfield 22, 3) := by decide +kernel
theorem dX7_copyFrom_52 : decode cX7_copyFrom 52 = .ok (.arraylength, 1) := by decide +kernel
theorem dX7_copyFrom_53 : decode cX7_copyFrom 53 = .ok (.invokestatic 57, 3) := by decide +kernel
theorem dX7_copyFrom_56 : decode cX7_copyFrom 56 = .ok (.aload_n 1, 1) := by decide +kernel
theorem dX7_copyFrom_57 : decode cX7_copyFrom 57 = .ok (.getfield 25, 3) := by decide +kernel
theorem dX7_copyFrom_60 : decode cX7_copyFrom 60 = .ok (.iconst 0, 1) := by decide +kernel
theorem dX7_copyFrom_61 : decode cX7_copyFrom 61 = .ok (.aload_n 0, 1) := by decide +kernel
theorem dX7_copyFrom_62 : decode cX7_copyFrom 62 = .ok (.getfield 25, 3) := by decide +kernel
theorem dX7_copyFrom_65 : decode cX7_copyFrom 65 = .ok (.iconst 0, 1) := by decide +kernel
theorem dX7_copyFrom_66 : decode cX7_copyFrom 66 = .ok (.aload_n 0, 1) := by decide +kernel
theorem dX7_copyFrom_67 : decode cX7_copyFrom 67 = .ok (.getfield 25, 3) := by decide +kernel
theorem dX7_copyFrom_70 : decode cX7_copyFrom 70 = .ok (.arraylength, 1) := by decide +kernel
theorem dX7_copyFrom_71 : decode cX7_copyFrom 71 = .ok (.invokestatic 57, 3) := by decide +kernel
theorem dX7_copyFrom_74 : decode cX7_copyFrom 74 = .ok (.aload_n 0, 1) := by decide +kernel
theorem dX7_copyFrom_75 : decode cX7_copyFrom 75 = .ok (.getfield 31, 3) := by decide +kernel
theorem dX7_copyFrom_78 : decode cX7_copyFrom 78 = .ok (.aload_n 1, 1) := by decide +kernel
theorem dX7_copyFrom_79 : decode cX7_copyFrom 79 = .ok (.getfield 31, 3) := by decide +kernel
theorem dX7_copyFrom_82 : decode cX7_copyFrom 82 = .ok (.invokevirtual 63, 3) := by decide +kernel
theorem dX7_copyFrom_85 : decode cX7_copyFrom 85 = .ok (.aload_n 0, 1) := by decide +kernel
theorem dX7_copyFrom_86 : decode cX7_copyFrom 86 = .ok (.getfield 40, 3) := by decide +kernel
theorem dX7_copyFrom_89 : decode cX7_copyFrom 89 = .ok (.aload_n 1, 1) := by decide +kernel
theorem dX7_copyFrom_90 : decode cX7_copyFrom 90 = .ok (.getfield 40, 3) := by decide +kernel
theorem dX7_copyFrom_93 : decode cX7_copyFrom 93 = .ok (.invokevirtual 67, 3) := by decide +kernel
theorem dX7_copyFrom_96 : decode cX7_copyFrom 96 = .ok (.aload_n 0, 1) := by decide +kernel
theorem dX7_copyFrom_97 : decode cX7_copyFrom 97 = .ok (.getfield 44, 3) := by decide +kernel
theorem dX7_copyFrom_100 : decode cX7_copyFrom 100 = .ok (.aload_n 1, 1) := by decide +kernel
theorem dX7_copyFrom_101 : decode cX7_copyFrom 101 = .ok (.getfield 44, 3) := by decide +kernel
theorem dX7_copyFrom_104 : decode cX7_copyFrom 104 = .ok (.invokevirtual 67, 3) := by decide +kernel
theorem dX7_copyFrom_107 : decode cX7_copyFrom 107 = .ok (.aload_n 0, 1) := by decide +kernel
theorem dX7_copyFrom_108 : decode cX7_copyFrom 108 = .ok (.getfield 47, 3) := by decide +kernel
theorem dX7_copyFrom_111 : decode cX7_copyFrom 111 = .ok (.aload_n 1, 1) := by decide +kernel
theorem dX7_copyFrom_112 : decode cX7_copyFrom 112 = .ok (.getfield 47, 3) := by decide +kernel
theorem dX7_copyFrom_115 : decode cX7_copyFrom 115 = .ok (.invokevirtual 67, 3) := by decide +kernel
theorem dX7_copyFrom_118 : decode cX7_copyFrom 118 = .ok (.aload_n 0, 1) := by decide +kernel
theorem dX7_copyFrom_119 : decode cX7_copyFrom 119 = .ok (.aload_n 1, 1) := by decide +kernel
theorem dX7_copyFrom_120 : decode cX7_copyFrom 120 = .ok (.getfield 53, 3) := by decide +kernel
theorem dX7_copyFrom_123 : decode cX7_copyFrom 123 = .ok (.putfield 53, 3) := by decide +kernel
theorem dX7_copyFrom_126 : decode cX7_copyFrom 126 = .ok (.return_, 1) := by decide +kernel
theorem dX7_enter_0 : decode cX7_enter 0 = .ok (.aload_n 0, 1) := by decide +kernel
theorem dX7_enter_1 : decode cX7_enter 1 = .ok (.getfield 11, 3) := by decide +kernel
theorem dX7_enter_4 : decode cX7_enter 4 = .ok (.istore 4, 2) := by decide +kernel
theorem dX7_enter_6 : decode cX7_enter 6 = .ok (.aload_n 0, 1) := by decide +kernel
theorem dX7_enter_7 : decode cX7_enter 7 = .ok (.dup, 1) := by decide +kernel
theorem dX7_enter_8 : decode cX7_enter 8 = .ok (.getfield 11, 3) := by decide +kernel
theorem dX7_enter_11 : decode cX7_enter 11 = .ok (.iconst 1, 1) := by decide +kernel
theorem dX7_enter_12 : decode cX7_enter 12 = .ok (.iadd, 1) := by decide +kernel
theorem dX7_enter_13 : decode cX7_enter 13 = .ok (.putfield 11, 3) := by decide +kernel
theorem dX7_enter_16 : decode cX7_enter 16 = .ok (.aload_n 0, 1) := by decide +kernel
theorem dX7_enter_17 : decode cX7_enter 17 = .ok (.getfield 15, 3) := by decide +kernel
theorem dX7_enter_20 : decode cX7_enter 20 = .ok (.iload 4, 2) := by decide +kernel
theorem dX7_enter_22 : decode cX7_enter 22 = .ok (.iload_n 1, 1) := by decide +kernel
theorem dX7_enter_23 : decode cX7_enter 23 = .ok (.iastore, 1) := by decide +kernel
theorem dX7_enter_24 : decode cX7_enter 24 = .ok (.aload_n 0, 1) := by decide +kernel
theorem dX7_enter_25 : decode cX7_enter 25 = .ok (.getfield 19, 3) := by decide +kernel
theorem dX7_enter_28 : decode cX7_enter 28 = .ok (.iload 4, 2) := by decide +kernel
theorem dX7_enter_30 : decode cX7_enter 30 = .ok (.iload_n 2, 1) := by decide +kernel
theorem dX7_enter_31 : decode cX7_enter 31 = .ok (.iastore, 1) := by decide +kernel
theorem dX7_enter_32 : decode cX7_enter 32 = .ok (.aload_n 0, 1) := by decide +kernel
theorem dX7_enter_33 : decode cX7_enter 33 = .ok (.getfield 31, 3) := by decide +kernel
theorem dX7_enter_36 : decode cX7_enter 36 = .ok (.getfield 70, 3) := by decide +kernel
theorem dX7_enter_39 : decode cX7_enter 39 = .ok (.iload 4, 2) := by decide +kernel
theorem dX7_enter_41 : decode cX7_enter 41 = .ok (.aload_n 0, 1) := by decide +kernel
theorem dX7_enter_42 : decode cX7_enter 42 = .ok (.getfield 31, 3) := by decide +kernel
theorem dX7_enter_45 : decode cX7_enter 45 = .ok (.getfield 73, 3) := by decide +kernel
theorem dX7_enter_48 : decode cX7_enter 48 = .ok (.iload_n 3, 1) := by decide +kernel
theorem dX7_enter_49 : decode cX7_enter 49 = .ok (.isub, 1) := by decide +kernel
theorem dX7_enter_50 : decode cX7_enter 50 = .ok (.iastore, 1) := by decide +kernel
theorem dX7_enter_51 : decode cX7_enter 51 = .ok (.aload_n 0, 1) := by decide +kernel
theorem dX7_enter_52 : decode cX7_enter 52 = .ok (.getfield 31, 3) := by decide +kernel
theorem dX7_enter_55 : decode cX7_enter 55 = .ok (.getfield 76, 3) := by decide +kernel
theorem dX7_enter_58 : decode cX7_enter 58 = .ok (.iload 4, 2) := by decide +kernel
theorem dX7_enter_60 : decode cX7_enter 60 = .ok (.iconst 0, 1) := by decide +kernel
theorem dX7_enter_61 : decode cX7_enter 61 = .ok (.bastore, 1) := by decide +kernel
theorem dX7_enter_62 : decode cX7_enter 62 = .ok (.iconst 0, 1) := by decide +kernel
theorem dX7_enter_63 : decode cX7_enter 63 = .ok (.istore 5, 2) := by decide +kernel
theorem dX7_enter_65 : decode cX7_enter 65 = .ok (.iload 5, 2) := by decide +kernel
theorem dX7_enter_67 : decode cX7_enter 67 = .ok (.iconst 4, 1) := by decide +kernel
theorem dX7_enter_68 : decode cX7_enter 68 = .ok (.if_icmp .ge 22, 3) := by decide +kernel
theorem dX7_enter_71 : decode cX7_enter 71 = .ok (.aload_n 0, 1) := by decide +kernel
theorem dX7_enter_72 : decode cX7_enter 72 = .ok (.getfield 22, 3) := by decide +kernel
theorem dX7_enter_75 : decode cX7_enter 75 = .ok (.iload 4, 2) := by decide +kernel
theorem dX7_enter_77 : decode cX7_enter 77 = .ok (.iconst 4, 1) := by decide +kernel
theorem dX7_enter_78 : decode cX7_enter 78 = .ok (.imul, 1) := by decide +kernel
theorem dX7_enter_79 : decode cX7_enter 79 = .ok (.iload 5, 2) := by decide +kernel
theorem dX7_enter_81 : decode cX7_enter 81 = .ok (.iadd, 1) := by decide +kernel
theorem dX7_enter_82 : decode cX7_enter 82 = .ok (.iconst 0, 1) := by decide +kernel
theorem dX7_enter_83 : decode cX7_enter 83 = .ok (.iastore, 1) := by decide +kernel
theorem dX7_enter_84 : decode cX7_enter 84 = .ok (.iinc 5 1, 3) := by decide +kernel
theorem dX7_enter_87 : decode cX7_enter 87 = .ok (.goto (-22), 3) := by decide +kernel
theorem dX7_enter_90 : decode cX7_enter 90 = .ok (.aload_n 0, 1) := by decide +kernel
theorem dX7_enter_91 : decode cX7_enter 91 = .ok (.iload 4, 2) := by decide +kernel
theorem dX7_enter_93 : decode cX7_enter 93 = .ok (.invokevirtual 80, 3) := by decide +kernel
theorem dX7_enter_96 : decode cX7_enter 96 = .ok (.iload 4, 2) := by decide +kernel
theorem dX7_enter_98 : decode cX7_enter 98 = .ok (.ireturn, 1) := by decide +kernel
theorem dX7_hold_0 : decode cX7_hold 0 = .ok (.aload_n 0, 1) := by decide +kernel
theorem dX7_hold_1 : decode cX7_hold 1 = .ok (.aload_n 1, 1) := by decide +kernel
theorem dX7_hold_2 : decode cX7_hold 2 = .ok (.putfield 53, 3) := by decide +kernel
theorem dX7_hold_5 : decode cX7_hold 5 = .ok (.iconst 0, 1) := by decide +kernel
theorem dX7_hold_6 : decode cX7_hold 6 = .ok (.istore_n 2, 1) := by decide +kernel
theorem dX7_hold_7 : decode cX7_hold 7 = .ok (.iload_n 2, 1) := by decide +kernel
theorem dX7_hold_8 : decode cX7_hold 8 = .ok (.aload_n 0, 1) := by decide +kernel
theorem dX7_hold_9 : decode cX7_hold 9 = .ok (.getfield 11, 3) := by decide +kernel
theorem dX7_hold_12 : decode cX7_hold 12 = .ok (.if_icmp .ge 14, 3) := by decide +kernel
theorem dX7_hold_15 : decode cX7_hold 15 = .ok (.aload_n 0, 1) := by decide +kernel
theorem dX7_hold_16 : decode cX7_hold 16 = .ok (.iload_n 2, 1) := by decide +kernel
theorem dX7_hold_17 : decode cX7_hold 17 = .ok (.invokevirtual 80, 3) := by decide +kernel
theorem dX7_hold_20 : decode cX7_hold 20 = .ok (.iinc 2 1, 3) := by decide +kernel
theorem dX7_hold_23 : decode cX7_hold 23 = .ok (.goto (-16), 3) := by decide +kernel
theorem dX7_hold_26 : decode cX7_hold 26 = .ok (.return_, 1) := by decide +kernel
theorem dX7_pace_0 : decode cX7_pace 0 = .ok (.aload_n 0, 1) := by decide +kernel
theorem dX7_pace_1 : decode cX7_pace 1 = .ok (.getfield 53, 3) := by decide +kernel
theorem dX7_pace_4 : decode cX7_pace 4 = .ok (.ifnonnull 8, 3) := by decide +kernel
theorem dX7_pace_7 : decode cX7_pace 7 = .ok (.bipush 10, 2) := by decide +kernel
theorem dX7_pace_9 : decode cX7_pace 9 = .ok (.goto 10, 3) := by decide +kernel
theorem dX7_pace_12 : decode cX7_pace 12 = .ok (.aload_n 0, 1) := by decide +kernel
theorem dX7_pace_13 : decode cX7_pace 13 = .ok (.getfield 53, 3) := by decide +kernel
theorem dX7_pace_16 : decode cX7_pace 16 = .ok (.getfield 85, 3) := by decide +kernel
theorem dX7_pace_19 : decode cX7_pace 19 = .ok (.ireturn, 1) := by decide +kernel
theorem dX7_learn_0 : decode cX7_learn 0 = .ok (.iload_n 1, 1) := by decide +kernel
theorem dX7_learn_1 : decode cX7_learn 1 = .ok (.bipush 101, 2) := by decide +kernel
theorem dX7_learn_3 : decode cX7_learn 3 = .ok (.imul, 1) := by decide +kernel
theorem dX7_learn_4 : decode cX7_learn 4 = .ok (.istore_n 2, 1) := by decide +kernel
theorem dX7_learn_5 : decode cX7_learn 5 = .ok (.aload_n 0, 1) := by decide +kernel
theorem dX7_learn_6 : decode cX7_learn 6 = .ok (.getfield 50, 3) := by decide +kernel
theorem dX7_learn_9 : decode cX7_learn 9 = .ok (.iconst 0, 1) := by decide +kernel
theorem dX7_learn_10 : decode cX7_learn 10 = .ok (.iload_n 1, 1) := by decide +kernel
theorem dX7_learn_11 : decode cX7_learn 11 = .ok (.iastore, 1) := by decide +kernel
theorem dX7_learn_12 : decode cX7_learn 12 = .ok (.aload_n 0, 1) := by decide +kernel
theorem dX7_learn_13 : decode cX7_learn 13 = .ok (.getfield 50, 3) := by decide +kernel
theorem dX7_learn_16 : decode cX7_learn 16 = .ok (.iconst 1, 1) := by decide +kernel
theorem dX7_learn_17 : decode cX7_learn 17 = .ok (.aload_n 0, 1) := by decide +kernel
theorem dX7_learn_18 : decode cX7_learn 18 = .ok (.getfield 15, 3) := by decide +kernel
theorem dX7_learn_21 : decode cX7_learn 21 = .ok (.iload_n 1, 1) := by decide +kernel
theorem dX7_learn_22 : decode cX7_learn 22 = .ok (.iaload, 1) := by decide +kernel
theorem dX7_learn_23 : decode cX7_learn 23 = .ok (.iastore, 1) := by decide +kernel
theorem dX7_learn_24 : decode cX7_learn 24 = .ok (.aload_n 0, 1) := by decide +kernel
theorem dX7_learn_25 : decode cX7_learn 25 = .ok (.getfield 50, 3) := by decide +kernel
theorem dX7_learn_28 : decode cX7_learn 28 = .ok (.iconst 2, 1) := by decide +kernel
theorem dX7_learn_29 : decode cX7_learn 29 = .ok (.aload_n 0, 1) := by decide +kernel
theorem dX7_learn_30 : decode cX7_learn 30 = .ok (.getfield 19, 3) := by decide +kernel
theorem dX7_learn_33 : decode cX7_learn 33 = .ok (.iload_n 1, 1) := by decide +kernel
theorem dX7_learn_34 : decode cX7_learn 34 = .ok (.iaload, 1) := by decide +kernel
theorem dX7_learn_35 : decode cX7_learn 35 = .ok (.iastore, 1) := by decide +kernel
theorem dX7_learn_36 : decode cX7_learn 36 = .ok (.aload_n 0, 1) := by decide +kernel
theorem dX7_learn_37 : decode cX7_learn 37 = .ok (.getfield 25, 3) := by decide +kernel
theorem dX7_learn_40 : decode cX7_learn 40 = .ok (.iload_n 2, 1) := by decide +kernel
theorem dX7_learn_41 : decode cX7_learn 41 = .ok (.iconst 0, 1) := by decide +kernel
theorem dX7_learn_42 : decode cX7_learn 42 = .ok (.iastore, 1) := by decide +kernel
theorem dX7_learn_43 : decode cX7_learn 43 = .ok (.iconst 0, 1) := by decide +kernel
theorem dX7_learn_44 : decode cX7_learn 44 = .ok (.istore_n 3, 1) := by decide +kernel
theorem dX7_learn_45 : decode cX7_learn 45 = .ok (.iload_n 3, 1) := by decide +kernel
theorem dX7_learn_46 : decode cX7_learn 46 = .ok (.bipush 100, 2) := by decide +kernel
theorem dX7_learn_48 : decode cX7_learn 48 = .ok (.if_icmp .ge 81, 3) := by decide +kernel
theorem dX7_learn_51 : decode cX7_learn 51 = .ok (.aload_n 0, 1) := by decide +kernel
theorem dX7_learn_52 : decode cX7_learn 52 = .ok (.getfield 50, 3) := by decide +kernel
theorem dX7_learn_55 : decode cX7_learn 55 = .ok (.iconst 3, 1) := by decide +kernel
theorem dX7_learn_56 : decode cX7_learn 56 = .ok (.iload_n 3, 1) := by decide +kernel
theorem dX7_learn_57 : decode cX7_learn 57 = .ok (.bipush 10, 2) := by decide +kernel
theorem dX7_learn_59 : decode cX7_learn 59 = .ok (.irem, 1) := by decide +kernel
theorem dX7_learn_60 : decode cX7_learn 60 = .ok (.iastore, 1) := by decide +kernel
theorem dX7_learn_61 : decode cX7_learn 61 = .ok (.aload_n 0, 1) := by decide +kernel
theorem dX7_learn_62 : decode cX7_learn 62 = .ok (.getfield 50, 3) := by decide +kernel
theorem dX7_learn_65 : decode cX7_learn 65 = .ok (.iconst 4, 1) := by decide +kernel
theorem dX7_learn_66 : decode cX7_learn 66 = .ok (.iload_n 3, 1) := by decide +kernel
theorem dX7_learn_67 : decode cX7_learn 67 = .ok (.bipush 10, 2) := by decide +kernel
theorem dX7_learn_69 : decode cX7_learn 69 = .ok (.idiv, 1) := by decide +kernel
theorem dX7_learn_70 : decode cX7_learn 70 = .ok (.iastore, 1) := by decide +kernel
theorem dX7_learn_71 : decode cX7_learn 71 = .ok (.aload_n 0, 1) := by decide +kernel
theorem dX7_learn_72 : decode cX7_learn 72 = .ok (.getfield 50, 3) := by decide +kernel
theorem dX7_learn_75 : decode cX7_learn 75 = .ok (.iconst 5, 1) := by decide +kernel
theorem dX7_learn_76 : decode cX7_learn 76 = .ok (.iload_n 3, 1) := by decide +kernel
theorem dX7_learn_77 : decode cX7_learn 77 = .ok (.iastore, 1) := by decide +kernel
theorem dX7_learn_78 : decode cX7_learn 78 = .ok (.aload_n 0, 1) := by decide +kernel
theorem dX7_learn_79 : decode cX7_learn 79 = .ok (.getfield 53, 3) := by decide +kernel
theorem dX7_learn_82 : decode cX7_learn 82 = .ok (.ifnonnull 7, 3) := by decide +kernel
theorem dX7_learn_85 : decode cX7_learn 85 = .ok (.iconst 1, 1) := by decide +kernel
theorem dX7_learn_86 : decode cX7_learn 86 = .ok (.goto 14, 3) := by decide +kernel
theorem dX7_learn_89 : decode cX7_learn 89 = .ok (.aload_n 0, 1) := by decide +kernel
theorem dX7_learn_90 : decode cX7_learn 90 = .ok (.getfield 53, 3) := by decide +kernel
theorem dX7_learn_93 : decode cX7_learn 93 = .ok (.aload_n 0, 1) := by decide +kernel
theorem dX7_learn_94 : decode cX7_learn 94 = .ok (.getfield 50, 3) := by decide +kernel
theorem dX7_learn_97 : decode cX7_learn 97 = .ok (.invokevirtual 88, 3) := by decide +kernel
theorem dX7_learn_100 : decode cX7_learn 100 = .ok (.istore 4, 2) := by decide +kernel
theorem dX7_learn_102 : decode cX7_learn 102 = .ok (.aload_n 0, 1) := by decide +kernel
theorem dX7_learn_103 : decode cX7_learn 103 = .ok (.getfield 25, 3) := by decide +kernel
theorem dX7_learn_106 : decode cX7_learn 106 = .ok (.iload_n 2, 1) := by decide +kernel
theorem dX7_learn_107 : decode cX7_learn 107 = .ok (.iload_n 3, 1) := by decide +kernel
theorem dX7_learn_108 : decode cX7_learn 108 = .ok (.iadd, 1) := by decide +kernel
theorem dX7_learn_109 : decode cX7_learn 109 = .ok (.iconst 1, 1) := by decide +kernel
theorem dX7_learn_110 : decode cX7_learn 110 = .ok (.iadd, 1) := by decide +kernel
theorem dX7_learn_111 : decode cX7_learn 111 = .ok (.aload_n 0, 1) := by decide +kernel
theorem dX7_learn_112 : decode cX7_learn 112 = .ok (.getfield 25, 3) := by decide +kernel
theorem dX7_learn_115 : decode cX7_learn 115 = .ok (.iload_n 2, 1) := by decide +kernel
theorem dX7_learn_116 : decode cX7_learn 116 = .ok (.iload_n 3, 1) := by decide +kernel
theorem dX7_learn_117 : decode cX7_learn 117 = .ok (.iadd, 1) := by decide +kernel
theorem dX7_learn_118 : decode cX7_learn 118 = .ok (.iaload, 1) := by decide +kernel
theorem dX7_learn_119 : decode cX7_learn 119 = .ok (.iload 4, 2) := by decide +kernel
theorem dX7_learn_121 : decode cX7_learn 121 = .ok (.iadd, 1) := by decide +kernel
theorem dX7_learn_122 : decode cX7_learn 122 = .ok (.iastore, 1) := by decide +kernel
theorem dX7_learn_123 : decode cX7_learn 123 = .ok (.iinc 3 1, 3) := by decide +kernel
theorem dX7_learn_126 : decode cX7_learn 126 = .ok (.goto (-81), 3) := by decide +kernel
theorem dX7_learn_129 : decode cX7_learn 129 = .ok (.return_, 1) := by decide +kernel
theorem dX7_newsOf_0 : decode cX7_newsOf 0 = .ok (.iload_n 1, 1) := by decide +kernel
theorem dX7_newsOf_1 : decode cX7_newsOf 1 = .ok (.bipush 101, 2) := by decide +kernel
theorem dX7_newsOf_3 : decode cX7_newsOf 3 = .ok (.imul, 1) := by decide +kernel
theorem dX7_newsOf_4 : decode cX7_newsOf 4 = .ok (.iload_n 2, 1) := by decide +kernel
theorem dX7_newsOf_5 : decode cX7_newsOf 5 = .ok (.bipush 100, 2) := by decide +kernel
theorem dX7_newsOf_7 : decode cX7_newsOf 7 = .ok (.irem, 1) := by decide +kernel
theorem dX7_newsOf_8 : decode cX7_newsOf 8 = .ok (.iadd, 1) := by decide +kernel
theorem dX7_newsOf_9 : decode cX7_newsOf 9 = .ok (.istore_n 3, 1) := by decide +kernel
theorem dX7_newsOf_10 : decode cX7_newsOf 10 = .ok (.aload_n 0, 1) := by decide +kernel
theorem dX7_newsOf_11 : decode cX7_newsOf 11 = .ok (.getfield 25, 3) := by decide +kernel
theorem dX7_newsOf_14 : decode cX7_newsOf 14 = .ok (.iload_n 3, 1) := by decide +kernel
theorem dX7_newsOf_15 : decode cX7_newsOf 15 = .ok (.iconst 1, 1) := by decide +kernel
theorem dX7_newsOf_16 : decode cX7_newsOf 16 = .ok (.iadd, 1) := by decide +kernel
theorem dX7_newsOf_17 : decode cX7_newsOf 17 = .ok (.iaload, 1) := by decide +kernel
theorem dX7_newsOf_18 : decode cX7_newsOf 18 = .ok (.aload_n 0, 1) := by decide +kernel
theorem dX7_newsOf_19 : decode cX7_newsOf 19 = .ok (.getfield 25, 3) := by decide +kernel
theorem dX7_newsOf_22 : decode cX7_newsOf 22 = .ok (.iload_n 3, 1) := by decide +kernel
theorem dX7_newsOf_23 : decode cX7_newsOf 23 = .ok (.iaload, 1) := by decide +kernel
theorem dX7_newsOf_24 : decode cX7_newsOf 24 = .ok (.isub, 1) := by decide +kernel
theorem dX7_newsOf_25 : decode cX7_newsOf 25 = .ok (.ireturn, 1) := by decide +kernel
theorem dX7_newsAhead_0 : decode cX7_newsAhead 0 = .ok (.iload_n 1, 1) := by decide +kernel
theorem dX7_newsAhead_1 : decode cX7_newsAhead 1 = .ok (.bipush 101, 2) := by decide +kernel
theorem dX7_newsAhead_3 : decode cX7_newsAhead 3 = .ok (.imul, 1) := by decide +kernel
theorem dX7_newsAhead_4 : decode cX7_newsAhead 4 = .ok (.istore_n 3, 1) := by decide +kernel
theorem dX7_newsAhead_5 : decode cX7_newsAhead 5 = .ok (.iload_n 2, 1) := by decide +kernel
theorem dX7_newsAhead_6 : decode cX7_newsAhead 6 = .ok (.bipush 100, 2) := by decide +kernel
theorem dX7_newsAhead_8 : decode cX7_newsAhead 8 = .ok (.idiv, 1) := by decide +kernel
theorem dX7_newsAhead_9 : decode cX7_newsAhead 9 = .ok (.aload_n 0, 1) := by decide +kernel
theorem dX7_newsAhead_10 : decode cX7_newsAhead 10 = .ok (.getfield 25, 3) := by decide +kernel
theorem dX7_newsAhead_13 : decode cX7_newsAhead 13 = .ok (.iload_n 3, 1) := by decide +kernel
theorem dX7_newsAhead_14 : decode cX7_newsAhead 14 = .ok (.bipush 100, 2) := by decide +kernel
theorem dX7_newsAhead_16 : decode cX7_newsAhead 16 = .ok (.iadd, 1) := by decide +kernel
theorem dX7_newsAhead_17 : decode cX7_newsAhead 17 = .ok (.iaload, 1) := by decide +kernel
theorem dX7_newsAhead_18 : decode cX7_newsAhead 18 = .ok (.imul, 1) := by decide +kernel
theorem dX7_newsAhead_19 : decode cX7_newsAhead 19 = .ok (.aload_n 0, 1) := by decide +kernel
theorem dX7_newsAhead_20 : decode cX7_newsAhead 20 = .ok (.getfield 25, 3) := by decide +kernel
theorem dX7_newsAhead_23 : decode cX7_newsAhead 23 = .ok (.iload_n 3, 1) := by decide +kernel
theorem dX7_newsAhead_24 : decode cX7_newsAhead 24 = .ok (.iload_n 2, 1) := by decide +kernel
theorem dX7_newsAhead_25 : decode cX7_newsAhead 25 = .ok (.bipush 100, 2) := by decide +kernel
theorem dX7_newsAhead_27 : decode cX7_newsAhead 27 = .ok (.irem, 1) := by decide +kernel
theorem dX7_newsAhead_28 : decode cX7_newsAhead 28 = .ok (.iadd, 1) := by decide +kernel
theorem dX7_newsAhead_29 : decode cX7_newsAhead 29 = .ok (.iaload, 1) := by decide +kernel
theorem dX7_newsAhead_30 : decode cX7_newsAhead 30 = .ok (.iadd, 1) := by decide +kernel
theorem dX7_newsAhead_31 : decode cX7_newsAhead 31 = .ok (.ireturn, 1) := by decide +kernel
theorem dX7_leftOf_0 : decode cX7_leftOf 0 = .ok (.aload_n 0, 1) := by decide +kernel
theorem dX7_leftOf_1 : decode cX7_leftOf 1 = .ok (.iload_n 2, 1) := by decide +kernel
theorem dX7_leftOf_2 : decode cX7_leftOf 2 = .ok (.aload_n 1, 1) := by decide +kernel
theorem dX7_leftOf_3 : decode cX7_leftOf 3 = .ok (.getfield 73, 3) := by decide +kernel
theorem dX7_leftOf_6 : decode cX7_leftOf 6 = .ok (.invokevirtual 92, 3) := by decide +kernel
theorem dX7_leftOf_9 : decode cX7_leftOf 9 = .ok (.aload_n 0, 1) := by decide +kernel
theorem dX7_leftOf_10 : decode cX7_leftOf 10 = .ok (.iload_n 2, 1) := by decide +kernel
theorem dX7_leftOf_11 : decode cX7_leftOf 11 = .ok (.aload_n 1, 1) := by decide +kernel
theorem dX7_leftOf_12 : decode cX7_leftOf 12 = .ok (.getfield 70, 3) := by decide +kernel
theorem dX7_leftOf_15 : decode cX7_leftOf 15 = .ok (.iload_n 2, 1) := by decide +kernel
theorem dX7_leftOf_16 : decode cX7_leftOf 16 = .ok (.iaload, 1) := by decide +kernel
theorem dX7_leftOf_17 : decode cX7_leftOf 17 = .ok (.invokevirtual 92, 3) := by decide +kernel
theorem dX7_leftOf_20 : decode cX7_leftOf 20 = .ok (.isub, 1) := by decide +kernel
theorem dX7_leftOf_21 : decode cX7_leftOf 21 = .ok (.ireturn, 1) := by decide +kernel
theorem dX7_leftOfAll_0 : decode cX7_leftOfAll 0 = .ok (.iconst 0, 1) := by decide +kernel
theorem dX7_leftOfAll_1 : decode cX7_leftOfAll 1 = .ok (.istore_n 2, 1) := by decide +kernel
theorem dX7_leftOfAll_2 : decode cX7_leftOfAll 2 = .ok (.iconst 0, 1) := by decide +kernel
theorem dX7_leftOfAll_3 : decode cX7_leftOfAll 3 = .ok (.istore_n 3, 1) := by decide +kernel
theorem dX7_leftOfAll_4 : decode cX7_leftOfAll 4 = .ok (.iload_n 3, 1) := by decide +kernel
theorem dX7_leftOfAll_5 : decode cX7_leftOfAll 5 = .ok (.aload_n 0, 1) := by decide +kernel
theorem dX7_leftOfAll_6 : decode cX7_leftOfAll 6 = .ok (.getfield 11, 3) := by decide +kernel
theorem dX7_leftOfAll_9 : decode cX7_leftOfAll 9 = .ok (.if_icmp .ge 18, 3) := by decide +kernel
theorem dX7_leftOfAll_12 : decode cX7_leftOfAll 12 = .ok (.iload_n 2, 1) := by decide +kernel
theorem dX7_leftOfAll_13 : decode cX7_leftOfAll 13 = .ok (.aload_n 0, 1) := by decide +kernel
theorem dX7_leftOfAll_14 : decode cX7_leftOfAll 14 = .ok (.aload_n 1, 1) := by decide +kernel
theorem dX7_leftOfAll_15 : decode cX7_leftOfAll 15 = .ok (.iload_n 3, 1) := by decide +kernel
theorem dX7_leftOfAll_16 : decode cX7_leftOfAll 16 = .ok (.invokevirtual 96, 3) := by decide +kernel
theorem dX7_leftOfAll_19 : decode cX7_leftOfAll 19 = .ok (.iadd, 1) := by decide +kernel
theorem dX7_leftOfAll_20 : decode cX7_leftOfAll 20 = .ok (.istore_n 2, 1) := by decide +kernel
theorem dX7_leftOfAll_21 : decode cX7_leftOfAll 21 = .ok (.iinc 3 1, 3) := by decide +kernel
theorem dX7_leftOfAll_24 : decode cX7_leftOfAll 24 = .ok (.goto (-20), 3) := by decide +kernel
theorem dX7_leftOfAll_27 : decode cX7_leftOfAll 27 = .ok (.iload_n 2, 1) := by decide +kernel
theorem dX7_leftOfAll_28 : decode cX7_leftOfAll 28 = .ok (.ireturn, 1) := by decide +kernel
theorem dX7_howManyUp_0 : decode cX7_howManyUp 0 = .ok (.iconst 0, 1) := by decide +kernel
theorem dX7_howManyUp_1 : decode cX7_howManyUp 1 = .ok (.istore_n 2, 1) := by decide +kernel
theorem dX7_howManyUp_2 : decode cX7_howManyUp 2 = .ok (.iconst 0, 1) := by decide +kernel
theorem dX7_howManyUp_3 : decode cX7_howManyUp 3 = .ok (.istore_n 3, 1) := by decide +kernel
theorem dX7_howManyUp_4 : decode cX7_howManyUp 4 = .ok (.iload_n 3, 1) := by decide +kernel
theorem dX7_howManyUp_5 : decode cX7_howManyUp 5 = .ok (.aload_n 0, 1) := by decide +kernel
theorem dX7_howManyUp_6 : decode cX7_howManyUp 6 = .ok (.getfield 11, 3) := by decide +kernel
theorem dX7_howManyUp_9 : decode cX7_howManyUp 9 = .ok (.if_icmp .ge 20, 3) := by decide +kernel
theorem dX7_howManyUp_12 : decode cX7_howManyUp 12 = .ok (.aload_n 1, 1) := by decide +kernel
theorem dX7_howManyUp_13 : decode cX7_howManyUp 13 = .ok (.iload_n 3, 1) := by decide +kernel
theorem dX7_howManyUp_14 : decode cX7_howManyUp 14 = .ok (.invokevirtual 100, 3) := by decide +kernel
theorem dX7_howManyUp_17 : decode cX7_howManyUp 17 = .ok (.ifCond .eq 6, 3) := by decide +kernel
theorem dX7_howManyUp_20 : decode cX7_howManyUp 20 = .ok (.iinc 2 1, 3) := by decide +kernel
theorem dX7_howManyUp_23 : decode cX7_howManyUp 23 = .ok (.iinc 3 1, 3) := by decide +kernel
theorem dX7_howManyUp_26 : decode cX7_howManyUp 26 = .ok (.goto (-22), 3) := by decide +kernel
theorem dX7_howManyUp_29 : decode cX7_howManyUp 29 = .ok (.iload_n 2, 1) := by decide +kernel
theorem dX7_howManyUp_30 : decode cX7_howManyUp 30 = .ok (.ireturn, 1) := by decide +kernel
theorem dX7_holds_0 : decode cX7_holds 0 = .ok (.aload_n 0, 1) := by decide +kernel
theorem dX7_holds_1 : decode cX7_holds 1 = .ok (.invokevirtual 104, 3) := by decide +kernel
theorem dX7_holds_4 : decode cX7_holds 4 = .ok (.istore_n 3, 1) := by decide +kernel
theorem dX7_holds_5 : decode cX7_holds 5 = .ok (.aload_n 0, 1) := by decide +kernel
theorem dX7_holds_6 : decode cX7_holds 6 = .ok (.getfield 15, 3) := by decide +kernel
theorem dX7_holds_9 : decode cX7_holds 9 = .ok (.iload_n 1, 1) := by decide +kernel
theorem dX7_holds_10 : decode cX7_holds 10 = .ok (.iaload, 1) := by decide +kernel
theorem dX7_holds_11 : decode cX7_holds 11 = .ok (.tableswitch 81 1 6 #[37, 81, 41, 49, 81, 60], 37) := by decide +kernel
theorem dX7_holds_48 : decode cX7_holds 48 = .ok (.iload_n 3, 1) := by decide +kernel
theorem dX7_holds_49 : decode cX7_holds 49 = .ok (.iconst 2, 1) := by decide +kernel
theorem dX7_holds_50 : decode cX7_holds 50 = .ok (.imul, 1) := by decide +kernel
theorem dX7_holds_51 : decode cX7_holds 51 = .ok (.ireturn, 1) := by decide +kernel
theorem dX7_holds_52 : decode cX7_holds 52 = .ok (.iconst 1, 1) := by decide +kernel
theorem dX7_holds_53 : decode cX7_holds 53 = .ok (.iload_n 3, 1) := by decide +kernel
theorem dX7_holds_54 : decode cX7_holds 54 = .ok (.iconst 2, 1) := by decide +kernel
theorem dX7_holds_55 : decode cX7_holds 55 = .ok (.idiv, 1) := by decide +kernel
theorem dX7_holds_56 : decode cX7_holds 56 = .ok (.invokestatic 107, 3) := by decide +kernel
theorem dX7_holds_59 : decode cX7_holds 59 = .ok (.ireturn, 1) := by decide +kernel
theorem dX7_holds_60 : decode cX7_holds 60 = .ok (.iload_n 3, 1) := by decide +kernel
theorem dX7_holds_61 : decode cX7_holds 61 = .ok (.iconst 2, 1) := by decide +kernel
theorem dX7_holds_62 : decode cX7_holds 62 = .ok (.imul, 1) := by decide +kernel
theorem dX7_holds_63 : decode cX7_holds 63 = .ok (.aload_n 0, 1) := by decide +kernel
theorem dX7_holds_64 : decode cX7_holds 64 = .ok (.getfield 19, 3) := by decide +kernel
theorem dX7_holds_67 : decode cX7_holds 67 = .ok (.iload_n 1, 1) := by decide +kernel
theorem dX7_holds_68 : decode cX7_holds 68 = .ok (.iaload, 1) := by decide +kernel
theorem dX7_holds_69 : decode cX7_holds 69 = .ok (.iadd, 1) := by decide +kernel
theorem dX7_holds_70 : decode cX7_holds 70 = .ok (.ireturn, 1) := by decide +kernel
theorem dX7_holds_71 : decode cX7_holds 71 = .ok (.iconst 1, 1) := by decide +kernel
theorem dX7_holds_72 : decode cX7_holds 72 = .ok (.iload_n 3, 1) := by decide +kernel
theorem dX7_holds_73 : decode cX7_holds 73 = .ok (.iconst 2, 1) := by decide +kernel
theorem dX7_holds_74 : decode cX7_holds 74 = .ok (.idiv, 1) := by decide +kernel
theorem dX7_holds_75 : decode cX7_holds 75 = .ok (.invokestatic 107, 3) := by decide +kernel
theorem dX7_holds_78 : decode cX7_holds 78 = .ok (.aload_n 0, 1) := by decide +kernel
theorem dX7_holds_79 : decode cX7_holds 79 = .ok (.getfield 22, 3) := by decide +kernel
theorem dX7_holds_82 : decode cX7_holds 82 = .ok (.iload_n 1, 1) := by decide +kernel
theorem dX7_holds_83 : decode cX7_holds 83 = .ok (.iconst 4, 1) := by decide +kernel
theorem dX7_holds_84 : decode cX7_holds 84 = .ok (.imul, 1) := by decide +kernel
theorem dX7_holds_85 : decode cX7_holds 85 = .ok (.iload_n 2, 1) := by decide +kernel
theorem dX7_holds_86 : decode cX7_holds 86 = .ok (.iconst 4, 1) := by decide +kernel
theorem dX7_holds_87 : decode cX7_holds 87 = .ok (.irem, 1) := by decide +kernel
theorem dX7_holds_88 : decode cX7_holds 88 = .ok (.iadd, 1) := by decide +kernel
theorem dX7_holds_89 : decode cX7_holds 89 = .ok (.iaload, 1) := by decide +kernel
theorem dX7_holds_90 : decode cX7_holds 90 = .ok (.iadd, 1) := by decide +kernel
theorem dX7_holds_91 : decode cX7_holds 91 = .ok (.ireturn, 1) := by decide +kernel
theorem dX7_holds_92 : decode cX7_holds 92 = .ok (.iload_n 3, 1) := by decide +kernel
theorem dX7_holds_93 : decode cX7_holds 93 = .ok (.ireturn, 1) := by decide +kernel
theorem dX7_minds_0 : decode cX7_minds 0 = .ok (.aload_n 0, 1) := by decide +kernel
theorem dX7_minds_1 : decode cX7_minds 1 = .ok (.getfield 15, 3) := by decide +kernel
theorem dX7_minds_4 : decode cX7_minds 4 = .ok (.iload_n 1, 1) := by decide +kernel
theorem dX7_minds_5 : decode cX7_minds 5 = .ok (.iaload, 1) := by decide +kernel
theorem dX7_minds_6 : decode cX7_minds 6 = .ok (.istore_n 3, 1) := by decide +kernel
theorem dX7_minds_7 : decode cX7_minds 7 = .ok (.iload_n 3, 1) := by decide +kernel
theorem dX7_minds_8 : decode cX7_minds 8 = .ok (.iconst 2, 1) := by decide +kernel
theorem dX7_minds_9 : decode cX7_minds 9 = .ok (.if_icmp .eq 10, 3) := by decide +kernel
theorem dX7_minds_12 : decode cX7_minds 12 = .ok (.iload_n 3, 1) := by decide +kernel
theorem dX7_minds_13 : decode cX7_minds 13 = .ok (.iconst 5, 1) := by decide +kernel
theorem dX7_minds_14 : decode cX7_minds 14 = .ok (.if_icmp .eq 5, 3) := by decide +kernel
theorem dX7_minds_17 : decode cX7_minds 17 = .ok (.iconst 0, 1) := by decide +kernel
theorem dX7_minds_18 : decode cX7_minds 18 = .ok (.ireturn, 1) := by decide +kernel
theorem dX7_minds_19 : decode cX7_minds 19 = .ok (.aload_n 0, 1) := by decide +kernel
theorem dX7_minds_20 : decode cX7_minds 20 = .ok (.getfield 19, 3) := by decide +kernel
theorem dX7_minds_23 : decode cX7_minds 23 = .ok (.iload_n 1, 1) := by decide +kernel
theorem dX7_minds_24 : decode cX7_minds 24 = .ok (.iaload, 1) := by decide +kernel
theorem dX7_minds_25 : decode cX7_minds 25 = .ok (.istore 4, 2) := by decide +kernel
theorem dX7_minds_27 : decode cX7_minds 27 = .ok (.iload_n 3, 1) := by decide +kernel
theorem dX7_minds_28 : decode cX7_minds 28 = .ok (.iconst 5, 1) := by decide +kernel
theorem dX7_minds_29 : decode cX7_minds 29 = .ok (.if_icmp .ne 14, 3) := by decide +kernel
theorem dX7_minds_32 : decode cX7_minds 32 = .ok (.iload_n 2, 1) := by decide +kernel
theorem dX7_minds_33 : decode cX7_minds 33 = .ok (.iload 4, 2) := by decide +kernel
theorem dX7_minds_35 : decode cX7_minds 35 = .ok (.iconst 2, 1) := by decide +kernel
theorem dX7_minds_36 : decode cX7_minds 36 = .ok (.iadd, 1) := by decide +kernel
theorem dX7_minds_37 : decode cX7_minds 37 = .ok (.irem, 1) := by decide +kernel
theorem dX7_minds_38 : decode cX7_minds 38 = .ok (.ifCond .ne 5, 3) := by decide +kernel
theorem dX7_minds_41 : decode cX7_minds 41 = .ok (.iconst 0, 1) := by decide +kernel
theorem dX7_minds_42 : decode cX7_minds 42 = .ok (.ireturn, 1) := by decide +kernel
theorem dX7_minds_43 : decode cX7_minds 43 = .ok (.aload_n 0, 1) := by decide +kernel
theorem dX7_minds_44 : decode cX7_minds 44 = .ok (.iload_n 1, 1) := by decide +kernel
theorem dX7_minds_45 : decode cX7_minds 45 = .ok (.iload_n 2, 1) := by decide +kernel
theorem dX7_minds_46 : decode cX7_minds 46 = .ok (.invokevirtual 112, 3) := by decide +kernel
theorem dX7_minds_49 : decode cX7_minds 49 = .ok (.iload 4, 2) := by decide +kernel
theorem dX7_minds_51 : decode cX7_minds 51 = .ok (.iconst 3, 1) := by decide +kernel
theorem dX7_minds_52 : decode cX7_minds 52 = .ok (.iadd, 1) := by decide +kernel
theorem dX7_minds_53 : decode cX7_minds 53 = .ok (.if_icmp .le 7, 3) := by decide +kernel
theorem dX7_minds_56 : decode cX7_minds 56 = .ok (.iconst 1, 1) := by decide +kernel
theorem dX7_minds_57 : decode cX7_minds 57 = .ok (.goto 4, 3) := by decide +kernel
theorem dX7_minds_60 : decode cX7_minds 60 = .ok (.iconst 0, 1) := by decide +kernel
theorem dX7_minds_61 : decode cX7_minds 61 = .ok (.ireturn, 1) := by decide +kernel
theorem dX7_evening_0 : decode cX7_evening 0 = .ok (.aload_n 0, 1) := by decide +kernel
theorem dX7_evening_1 : decode cX7_evening 1 = .ok (.iload_n 2, 1) := by decide +kernel
theorem dX7_evening_2 : decode cX7_evening 2 = .ok (.aload_n 1, 1) := by decide +kernel
theorem dX7_evening_3 : decode cX7_evening 3 = .ok (.getfield 73, 3) := by decide +kernel
theorem dX7_evening_6 : decode cX7_evening 6 = .ok (.invokevirtual 115, 3) := by decide +kernel
theorem dX7_evening_9 : decode cX7_evening 9 = .ok (.istore_n 3, 1) := by decide +kernel
theorem dX7_evening_10 : decode cX7_evening 10 = .ok (.iconst 0, 1) := by decide +kernel
theorem dX7_evening_11 : decode cX7_evening 11 = .ok (.istore 4, 2) := by decide +kernel
theorem dX7_evening_13 : decode cX7_evening 13 = .ok (.iload 4, 2) := by decide +kernel
theorem dX7_evening_15 : decode cX7_evening 15 = .ok (.bipush 30, 2) := by decide +kernel
theorem dX7_evening_17 : decode cX7_evening 17 = .ok (.if_icmp .ge 94, 3) := by decide +kernel
theorem dX7_evening_20 : decode cX7_evening 20 = .ok (.aload_n 1, 1) := by decide +kernel
theorem dX7_evening_21 : decode cX7_evening 21 = .ok (.getfield 70, 3) := by decide +kernel
theorem dX7_evening_24 : decode cX7_evening 24 = .ok (.iload_n 2, 1) := by decide +kernel
theorem dX7_evening_25 : decode cX7_evening 25 = .ok (.iaload, 1) := by decide +kernel
theorem dX7_evening_26 : decode cX7_evening 26 = .ok (.aload_n 1, 1) := by decide +kernel
theorem dX7_evening_27 : decode cX7_evening 27 = .ok (.getfield 73, 3) := by decide +kernel
theorem dX7_evening_30 : decode cX7_evening 30 = .ok (.if_icmp .ge 81, 3) := by decide +kernel
theorem dX7_evening_33 : decode cX7_evening 33 = .ok (.aload_n 1, 1) := by decide +kernel
theorem dX7_evening_34 : decode cX7_evening 34 = .ok (.getfield 76, 3) := by decide +kernel
theorem dX7_evening_37 : decode cX7_evening 37 = .ok (.iload_n 2, 1) := by decide +kernel
theorem dX7_evening_38 : decode cX7_evening 38 = .ok (.baload, 1) := by decide +kernel
theorem dX7_evening_39 : decode cX7_evening 39 = .ok (.ifCond .ne 72, 3) := by decide +kernel
theorem dX7_evening_42 : decode cX7_evening 42 = .ok (.aload_n 1, 1) := by decide +kernel
theorem dX7_evening_43 : decode cX7_evening 43 = .ok (.getfield 70, 3) := by decide +kernel
theorem dX7_evening_46 : decode cX7_evening 46 = .ok (.iload_n 2, 1) := by decide +kernel
theorem dX7_evening_47 : decode cX7_evening 47 = .ok (.iaload, 1) := by decide +kernel
theorem dX7_evening_48 : decode cX7_evening 48 = .ok (.istore 5, 2) := by decide +kernel
theorem dX7_evening_50 : decode cX7_evening 50 = .ok (.aload_n 0, 1) := by decide +kernel
theorem dX7_evening_51 : decode cX7_evening 51 = .ok (.iload_n 2, 1) := by decide +kernel
theorem dX7_evening_52 : decode cX7_evening 52 = .ok (.iload 5, 2) := by decide +kernel
theorem dX7_evening_54 : decode cX7_evening 54 = .ok (.invokevirtual 112, 3) := by decide +kernel
theorem dX7_evening_57 : decode cX7_evening 57 = .ok (.istore 6, 2) := by decide +kernel
theorem dX7_evening_59 : decode cX7_evening 59 = .ok (.aload_n 0, 1) := by decide +kernel
theorem dX7_evening_60 : decode cX7_evening 60 = .ok (.iload_n 2, 1) := by decide +kernel
theorem dX7_evening_61 : decode cX7_evening 61 = .ok (.iload 5, 2) := by decide +kernel
theorem dX7_evening_63 : decode cX7_evening 63 = .ok (.invokevirtual 118, 3) := by decide +kernel
theorem dX7_evening_66 : decode cX7_evening 66 = .ok (.ifCond .eq 13, 3) := by decide +kernel
theorem dX7_evening_69 : decode cX7_evening 69 = .ok (.aload_n 1, 1) := by decide +kernel
theorem dX7_evening_70 : decode cX7_evening 70 = .ok (.getfield 76, 3) := by decide +kernel
theorem dX7_evening_73 : decode cX7_evening 73 = .ok (.iload_n 2, 1) := by decide +kernel
theorem dX7_evening_74 : decode cX7_evening 74 = .ok (.iconst 1, 1) := by decide +kernel
theorem dX7_evening_75 : decode cX7_evening 75 = .ok (.bastore, 1) := by decide +kernel
theorem dX7_evening_76 : decode cX7_evening 76 = .ok (.goto 32, 3) := by decide +kernel
theorem dX7_evening_79 : decode cX7_evening 79 = .ok (.iload 4, 2) := by decide +kernel
theorem dX7_evening_81 : decode cX7_evening 81 = .ok (.ifCond .eq 9, 3) := by decide +kernel
theorem dX7_evening_84 : decode cX7_evening 84 = .ok (.iload 6, 2) := by decide +kernel
theorem dX7_evening_86 : decode cX7_evening 86 = .ok (.iload_n 3, 1) := by decide +kernel
theorem dX7_evening_87 : decode cX7_evening 87 = .ok (.if_icmp .gt 24, 3) := by decide +kernel
theorem dX7_evening_90 : decode cX7_evening 90 = .ok (.iload_n 3, 1) := by decide +kernel
theorem dX7_evening_91 : decode cX7_evening 91 = .ok (.iload 6, 2) := by decide +kernel
theorem dX7_evening_93 : decode cX7_evening 93 = .ok (.isub, 1) := by decide +kernel
theorem dX7_evening_94 : decode cX7_evening 94 = .ok (.istore_n 3, 1) := by decide +kernel
theorem dX7_evening_95 : decode cX7_evening 95 = .ok (.aload_n 1, 1) := by decide +kernel
theorem dX7_evening_96 : decode cX7_evening 96 = .ok (.getfield 70, 3) := by decide +kernel
theorem dX7_evening_99 : decode cX7_evening 99 = .ok (.iload_n 2, 1) := by decide +kernel
theorem dX7_evening_100 : decode cX7_evening 100 = .ok (.dup2, 1) := by decide +kernel
theorem dX7_evening_101 : decode cX7_evening 101 = .ok (.iaload, 1) := by decide +kernel
theorem dX7_evening_102 : decode cX7_evening 102 = .ok (.iconst 1, 1) := by decide +kernel
theorem dX7_evening_103 : decode cX7_evening 103 = .ok (.iadd, 1) := by decide +kernel
theorem dX7_evening_104 : decode cX7_evening 104 = .ok (.iastore, 1) := by decide +kernel
theorem dX7_evening_105 : decode cX7_evening 105 = .ok (.iinc 4 1, 3) := by decide +kernel
theorem dX7_evening_108 : decode cX7_evening 108 = .ok (.goto (-95), 3) := by decide +kernel
theorem dX7_evening_111 : decode cX7_evening 111 = .ok (.aload_n 0, 1) := by decide +kernel
theorem dX7_evening_112 : decode cX7_evening 112 = .ok (.aload_n 1, 1) := by decide +kernel
theorem dX7_evening_113 : decode cX7_evening 113 = .ok (.invokevirtual 122, 3) := by decide +kernel
theorem dX7_evening_116 : decode cX7_evening 116 = .ok (.iload 4, 2) := by decide +kernel
theorem dX7_evening_118 : decode cX7_evening 118 = .ok (.ireturn, 1) := by decide +kernel
theorem dX7_night_0 : decode cX7_night 0 = .ok (.iconst 0, 1) := by decide +kernel
theorem dX7_night_1 : decode cX7_night 1 = .ok (.istore_n 2, 1) := by decide +kernel
theorem dX7_night_2 : decode cX7_night 2 = .ok (.iload_n 2, 1) := by decide +kernel
theorem dX7_night_3 : decode cX7_night 3 = .ok (.aload_n 0, 1) := by decide +kernel
theorem dX7_night_4 : decode cX7_night 4 = .ok (.getfield 11, 3) := by decide +kernel
theorem dX7_night_7 : decode cX7_night 7 = .ok (.if_icmp .ge 27, 3) := by decide +kernel
theorem dX7_night_10 : decode cX7_night 10 = .ok (.aload_n 1, 1) := by decide +kernel
theorem dX7_night_11 : decode cX7_night 11 = .ok (.iload_n 2, 1) := by decide +kernel
theorem dX7_night_12 : decode cX7_night 12 = .ok (.invokevirtual 100, 3) := by decide +kernel
theorem dX7_night_15 : decode cX7_night 15 = .ok (.ifCond .eq 13, 3) := by decide +kernel
theorem dX7_night_18 : decode cX7_night 18 = .ok (.aload_n 1, 1) := by decide +kernel
theorem dX7_night_19 : decode cX7_night 19 = .ok (.getfield 70, 3) := by decide +kernel
theorem dX7_night_22 : decode cX7_night 22 = .ok (.iload_n 2, 1) := by decide +kernel
theorem dX7_night_23 : decode cX7_night 23 = .ok (.dup2, 1) := by decide +kernel
theorem dX7_night_24 : decode cX7_night 24 = .ok (.iaload, 1) := by decide +kernel
theorem dX7_night_25 : decode cX7_night 25 = .ok (.iconst 1, 1) := by decide +kernel
theorem dX7_night_26 : decode cX7_night 26 = .ok (.iadd, 1) := by decide +kernel
theorem dX7_night_27 : decode cX7_night 27 = .ok (.iastore, 1) := by decide +kernel
theorem dX7_night_28 : decode cX7_night 28 = .ok (.iinc 2 1, 3) := by decide +kernel
theorem dX7_night_31 : decode cX7_night 31 = .ok (.goto (-29), 3) := by decide +kernel
theorem dX7_night_34 : decode cX7_night 34 = .ok (.aload_n 1, 1) := by decide +kernel
theorem dX7_night_35 : decode cX7_night 35 = .ok (.dup, 1) := by decide +kernel
theorem dX7_night_36 : decode cX7_night 36 = .ok (.getfield 73, 3) := by decide +kernel
theorem dX7_night_39 : decode cX7_night 39 = .ok (.iconst 1, 1) := by decide +kernel
theorem dX7_night_40 : decode cX7_night 40 = .ok (.iadd, 1) := by decide +kernel
theorem dX7_night_41 : decode cX7_night 41 = .ok (.putfield 73, 3) := by decide +kernel
theorem dX7_night_44 : decode cX7_night 44 = .ok (.return_, 1) := by decide +kernel
theorem dX8_init_0 : decode cX8_init 0 = .ok (.aload_n 0, 1) := by decide +kernel
theorem dX8_init_1 : decode cX8_init 1 = .ok (.invokespecial 1, 3) := by decide +kernel
theorem dX8_init_4 : decode cX8_init 4 = .ok (.aload_n 0, 1) := by decide +kernel
theorem dX8_init_5 : decode cX8_init 5 = .ok (.iconst (-1), 1) := by decide +kernel
theorem dX8_init_6 : decode cX8_init 6 = .ok (.putfield 9, 3) := by decide +kernel
theorem dX8_init_9 : decode cX8_init 9 = .ok (.aload_n 0, 1) := by decide +kernel
theorem dX8_init_10 : decode cX8_init 10 = .ok (.iconst 0, 1) := by decide +kernel
theorem dX8_init_11 : decode cX8_init 11 = .ok (.putfield 13, 3) := by decide +kernel
theorem dX8_init_14 : decode cX8_init 14 = .ok (.aload_n 0, 1) := by decide +kernel
theorem dX8_init_15 : decode cX8_init 15 = .ok (.bipush 60, 2) := by decide +kernel
theorem dX8_init_17 : decode cX8_init 17 = .ok (.newarray .long, 2) := by decide +kernel
theorem dX8_init_19 : decode cX8_init 19 = .ok (.putfield 16, 3) := by decide +kernel
theorem dX8_init_22 : decode cX8_init 22 = .ok (.return_, 1) := by decide +kernel
theorem dX8_become_0 : decode cX8_become 0 = .ok (.aload_n 0, 1) := by decide +kernel
theorem dX8_become_1 : decode cX8_become 1 = .ok (.iload_n 1, 1) := by decide +kernel
theorem dX8_become_2 : decode cX8_become 2 = .ok (.putfield 9, 3) := by decide +kernel
theorem dX8_become_5 : decode cX8_become 5 = .ok (.aload_n 0, 1) := by decide +kernel
theorem dX8_become_6 : decode cX8_become 6 = .ok (.iload_n 2, 1) := by decide +kernel
theorem dX8_become_7 : decode cX8_become 7 = .ok (.putfield 13, 3) := by decide +kernel
theorem dX8_become_10 : decode cX8_become 10 = .ok (.aload_n 0, 1) := by decide +kernel
theorem dX8_become_11 : decode cX8_become 11 = .ok (.getfield 16, 3) := by decide +kernel
theorem dX8_become_14 : decode cX8_become 14 = .ok (.lconst 0, 1) := by decide +kernel
theorem dX8_become_15 : decode cX8_become 15 = .ok (.invokestatic 20, 3) := by decide +kernel
theorem dX8_become_18 : decode cX8_become 18 = .ok (.return_, 1) := by decide +kernel
theorem dX8_has_0 : decode cX8_has 0 = .ok (.iload_n 1, 1) := by decide +kernel
theorem dX8_has_1 : decode cX8_has 1 = .ok (.ifCond .lt 15, 3) := by decide +kernel
theorem dX8_has_4 : decode cX8_has 4 = .ok (.iload_n 1, 1) := by decide +kernel
theorem dX8_has_5 : decode cX8_has 5 = .ok (.aload_n 0, 1) := by decide +kernel
theorem dX8_has_6 : decode cX8_has 6 = .ok (.getfield 13, 3) := by decide +kernel
theorem dX8_has_9 : decode cX8_has 9 = .ok (.if_icmp .ge 7, 3) := by decide +kernel
theorem dX8_has_12 : decode cX8_has 12 = .ok (.iconst 1, 1) := by decide +kernel
theorem dX8_has_13 : decode cX8_has 13 = .ok (.goto 4, 3) := by decide +kernel
theorem dX8_has_16 : decode cX8_has 16 = .ok (.iconst 0, 1) := by decide +kernel
theorem dX8_has_17 : decode cX8_has 17 = .ok (.ireturn, 1) := by decide +kernel
theorem dX8_hasRun_0 : decode cX8_hasRun 0 = .ok (.iload_n 1, 1) := by decide +kernel
theorem dX8_hasRun_1 : decode cX8_hasRun 1 = .ok (.ifCond .lt 29, 3) := by decide +kernel
theorem dX8_hasRun_4 : decode cX8_hasRun 4 = .ok (.iload_n 2, 1) := by decide +kernel
theorem dX8_hasRun_5 : decode cX8_hasRun 5 = .ok (.ifCond .lt 25, 3) := by decide +kernel
theorem dX8_hasRun_8 : decode cX8_hasRun 8 = .ok (.iload_n 2, 1) := by decide +kernel
theorem dX8_hasRun_9 : decode cX8_hasRun 9 = .ok (.aload_n 0, 1) := by decide +kernel
theorem dX8_hasRun_10 : decode cX8_hasRun 10 = .ok (.getfield 13, 3) := by decide +kernel
theorem dX8_hasRun_13 : decode cX8_hasRun 13 = .ok (.if_icmp .gt 17, 3) := by decide +kernel
theorem dX8_hasRun_16 : decode cX8_hasRun 16 = .ok (.iload_n 1, 1) := by decide +kernel
theorem dX8_hasRun_17 : decode cX8_hasRun 17 = .ok (.aload_n 0, 1) := by decide +kernel
theorem dX8_hasRun_18 : decode cX8_hasRun 18 = .ok (.getfield 13, 3) := by decide +kernel
theorem dX8_hasRun_21 : decode cX8_hasRun 21 = .ok (.iload_n 2, 1) := by decide +kernel
theorem dX8_hasRun_22 : decode cX8_hasRun 22 = .ok (.isub, 1) := by decide +kernel
theorem dX8_hasRun_23 : decode cX8_hasRun 23 = .ok (.if_icmp .gt 7, 3) := by decide +kernel
theorem dX8_hasRun_26 : decode cX8_hasRun 26 = .ok (.iconst 1, 1) := by decide +kernel
theorem dX8_hasRun_27 : decode cX8_hasRun 27 = .ok (.goto 4, 3) := by decide +kernel
theorem dX8_hasRun_30 : decode cX8_hasRun 30 = .ok (.iconst 0, 1) := by decide +kernel
theorem dX8_hasRun_31 : decode cX8_hasRun 31 = .ok (.ireturn, 1) := by decide +kernel
theorem dX8_cut_0 : decode cX8_cut 0 = .ok (.aload_n 0, 1) := by decide +kernel
theorem dX8_cut_1 : decode cX8_cut 1 = .ok (.getfield 9, 3) := by decide +kernel
theorem dX8_cut_4 : decode cX8_cut 4 = .ok (.tableswitch 62 0 4 #[36, 41, 46, 62, 50], 36) := by decide +kernel
theorem dX8_cut_40 : decode cX8_cut 40 = .ok (.lload_n 1, 1) := by decide +kernel
theorem dX8_cut_41 : decode cX8_cut 41 = .ok (.l2i, 1) := by decide +kernel
theorem dX8_cut_42 : decode cX8_cut 42 = .ok (.i2b, 1) := by decide +kernel
theorem dX8_cut_43 : decode cX8_cut 43 = .ok (.i2l, 1) := by decide +kernel
theorem dX8_cut_44 : decode cX8_cut 44 = .ok (.lreturn, 1) := by decide +kernel
theorem dX8_cut_45 : decode cX8_cut 45 = .ok (.lload_n 1, 1) := by decide +kernel
theorem dX8_cut_46 : decode cX8_cut 46 = .ok (.l2i, 1) := by decide +kernel
theorem dX8_cut_47 : decode cX8_cut 47 = .ok (.i2s, 1) := by decide +kernel
theorem dX8_cut_48 : decode cX8_cut 48 = .ok (.i2l, 1) := by decide +kernel
theorem dX8_cut_49 : decode cX8_cut 49 = .ok (.lreturn, 1) := by decide +kernel
theorem dX8_cut_50 : decode cX8_cut 50 = .ok (.lload_n 1, 1) := by decide +kernel
theorem dX8_cut_51 : decode cX8_cut 51 = .ok (.l2i, 1) := by decide +kernel
theorem dX8_cut_52 : decode cX8_cut 52 = .ok (.i2l, 1) := by decide +kernel
theorem dX8_cut_53 : decode cX8_cut 53 = .ok (.lreturn, 1) := by decide +kernel
theorem dX8_cut_54 : decode cX8_cut 54 = .ok (.lload_n 1, 1) := by decide +kernel
theorem dX8_cut_55 : decode cX8_cut 55 = .ok (.lconst 0, 1) := by decide +kernel
theorem dX8_cut_56 : decode cX8_cut 56 = .ok (.lcmp, 1) := by decide +kernel
theorem dX8_cut_57 : decode cX8_cut 57 = .ok (.ifCond .eq 7, 3) := by decide +kernel
theorem dX8_cut_60 : decode cX8_cut 60 = .ok (.lconst 1, 1) := by decide +kernel
theorem dX8_cut_61 : decode cX8_cut 61 = .ok (.goto 4, 3) := by decide +kernel
theorem dX8_cut_64 : decode cX8_cut 64 = .ok (.lconst 0, 1) := by decide +kernel
theorem dX8_cut_65 : decode cX8_cut 65 = .ok (.lreturn, 1) := by decide +kernel
theorem dX8_cut_66 : decode cX8_cut 66 = .ok (.lload_n 1, 1) := by decide +kernel
theorem dX8_cut_67 : decode cX8_cut 67 = .ok (.lreturn, 1) := by decide +kernel
theorem dX9_init_0 : decode cX9_init 0 = .ok (.aload_n 0, 1) := by decide +kernel
theorem dX9_init_1 : decode cX9_init 1 = .ok (.invokespecial 3, 3) := by decide +kernel
theorem dX9_init_4 : decode cX9_init 4 = .ok (.aload_n 0, 1) := by decide +kernel
theorem dX9_init_5 : decode cX9_init 5 = .ok (.new 9, 3) := by decide +kernel
theorem dX9_init_8 : decode cX9_init 8 = .ok (.dup, 1) := by decide +kernel
theorem dX9_init_9 : decode cX9_init 9 = .ok (.invokespecial 11, 3) := by decide +kernel
theorem dX9_init_12 : decode cX9_init 12 = .ok (.putfield 12, 3) := by decide +kernel
theorem dX9_init_15 : decode cX9_init 15 = .ok (.aload_n 0, 1) := by decide +kernel
theorem dX9_init_16 : decode cX9_init 16 = .ok (.new 9, 3) := by decide +kernel
theorem dX9_init_19 : decode cX9_init 19 = .ok (.dup, 1) := by decide +kernel
theorem dX9_init_20 : decode cX9_init 20 = .ok (.invokespecial 11, 3) := by decide +kernel
theorem dX9_init_23 : decode cX9_init 23 = .ok (.putfield 18, 3) := by decide +kernel
theorem dX9_init_26 : decode cX9_init 26 = .ok (.aload_n 0, 1) := by decide +kernel
theorem dX9_init_27 : decode cX9_init 27 = .ok (.iconst 0, 1) := by decide +kernel
theorem dX9_init_28 : decode cX9_init 28 = .ok (.putfield 21, 3) := by decide +kernel
theorem dX9_init_31 : decode cX9_init 31 = .ok (.aload_n 0, 1) := by decide +kernel
theorem dX9_init_32 : decode cX9_init 32 = .ok (.new 25, 3) := by decide +kernel
theorem dX9_init_35 : decode cX9_init 35 = .ok (.dup, 1) := by decide +kernel
theorem dX9_init_36 : decode cX9_init 36 = .ok (.invokespecial 27, 3) := by decide +kernel
theorem dX9_init_39 : decode cX9_init 39 = .ok (.putfield 28, 3) := by decide +kernel
theorem dX9_init_42 : decode cX9_init 42 = .ok (.aload_n 0, 1) := by decide +kernel
theorem dX9_init_43 : decode cX9_init 43 = .ok (.bipush 6, 2) := by decide +kernel
theorem dX9_init_45 : decode cX9_init 45 = .ok (.anewarray 32, 3) := by decide +kernel
theorem dX9_init_48 : decode cX9_init 48 = .ok (.putfield 34, 3) := by decide +kernel
theorem dX9_init_51 : decode cX9_init 51 = .ok (.aload_n 0, 1) := by decide +kernel
theorem dX9_init_52 : decode cX9_init 52 = .ok (.iconst 0, 1) := by decide +kernel
theorem dX9_init_53 : decode cX9_init 53 = .ok (.putfield 38, 3) := by decide +kernel
theorem dX9_init_56 : decode cX9_init 56 = .ok (.aload_n 0, 1) := by decide +kernel
theorem dX9_init_57 : decode cX9_init 57 = .ok (.new 42, 3) := by decide +kernel
theorem dX9_init_60 : decode cX9_init 60 = .ok (.dup, 1) := by decide +kernel
theorem dX9_init_61 : decode cX9_init 61 = .ok (.aload_n 0, 1) := by decide +kernel
theorem dX9_init_62 : decode cX9_init 62 = .ok (.getfield 12, 3) := by decide +kernel
theorem dX9_init_65 : decode cX9_init 65 = .ok (.invokespecial 44, 3) := by decide +kernel
theorem dX9_init_68 : decode cX9_init 68 = .ok (.putfield 47, 3) := by decide +kernel
theorem dX9_init_71 : decode cX9_init 71 = .ok (.aload_n 0, 1) := by decide +kernel
theorem dX9_init_72 : decode cX9_init 72 = .ok (.new 51, 3) := by decide +kernel
theorem dX9_init_75 : decode cX9_init 75 = .ok (.dup, 1) := by decide +kernel
theorem dX9_init_76 : decode cX9_init 76 = .ok (.aload_n 0, 1) := by decide +kernel
theorem dX9_init_77 : decode cX9_init 77 = .ok (.getfield 12, 3) := by decide +kernel
theorem dX9_init_80 : decode cX9_init 80 = .ok (.invokespecial 53, 3) := by decide +kernel
theorem dX9_init_83 : decode cX9_init 83 = .ok (.putfield 54, 3) := by decide +kernel
theorem dX9_init_86 : decode cX9_init 86 = .ok (.aload_n 0, 1) := by decide +kernel
theorem dX9_init_87 : decode cX9_init 87 = .ok (.new 58, 3) := by decide +kernel
theorem dX9_init_90 : decode cX9_init 90 = .ok (.dup, 1) := by decide +kernel
theorem dX9_init_91 : decode cX9_init 91 = .ok (.invokespecial 60, 3) := by decide +kernel
theorem dX9_init_94 : decode cX9_init 94 = .ok (.putfield 61, 3) := by decide +kernel
theorem dX9_init_97 : decode cX9_init 97 = .ok (.aload_n 0, 1) := by decide +kernel
theorem dX9_init_98 : decode cX9_init 98 = .ok (.bipush 6, 2) := by decide +kernel
theorem dX9_init_100 : decode cX9_init 100 = .ok (.anewarray 65, 3) := by decide +kernel
theorem dX9_init_103 : decode cX9_init 103 = .ok (.putfield 67, 3) := by decide +kernel
theorem dX9_init_106 : decode cX9_init 106 = .ok (.iconst 0, 1) := by decide +kernel
theorem dX9_init_107 : decode cX9_init 107 = .ok (.istore_n 1, 1) := by decide +kernel
theorem dX9_init_108 : decode cX9_init 108 = .ok (.iload_n 1, 1) := by decide +kernel
theorem dX9_init_109 : decode cX9_init 109 = .ok (.bipush 6, 2) := by decide +kernel
theorem dX9_init_111 : decode cX9_init 111 = .ok (.if_icmp .ge 22, 3) := by decide +kernel
theorem dX9_init_114 : decode cX9_init 114 = .ok (.aload_n 0, 1) := by decide +kernel
theorem dX9_init_115 : decode cX9_init 115 = .ok (.getfield 34, 3) := by decide +kernel
theorem dX9_init_118 : decode cX9_init 118 = .ok (.iload_n 1, 1) := by decide +kernel
theorem dX9_init_119 : decode cX9_init 119 = .ok (.new 32, 3) := by decide +kernel
theorem dX9_init_122 : decode cX9_init 122 = .ok (.dup, 1) := by decide +kernel
theorem dX9_init_123 : decode cX9_init 123 = .ok (.invokespecial 71, 3) := by decide +kernel
theorem dX9_init_126 : decode cX9_init 126 = .ok (.aastore, 1) := by decide +kernel
theorem dX9_init_127 : decode cX9_init 127 = .ok (.iinc 1 1, 3) := by decide +kernel
theorem dX9_init_130 : decode cX9_init 130 = .ok (.goto (-22), 3) := by decide +kernel
theorem dX9_init_133 : decode cX9_init 133 = .ok (.iconst 0, 1) := by decide +kernel
theorem dX9_init_134 : decode cX9_init 134 = .ok (.istore_n 1, 1) := by decide +kernel
theorem dX9_init_135 : decode cX9_init 135 = .ok (.iload_n 1, 1) := by decide +kernel
theorem dX9_init_136 : decode cX9_init 136 = .ok (.bipush 6, 2) := by decide +kernel
theorem dX9_init_138 : decode cX9_init 138 = .ok (.if_icmp .ge 22, 3) := by decide +kernel
theorem dX9_init_141 : decode cX9_init 141 = .ok (.aload_n 0, 1) := by decide +kernel
theorem dX9_init_142 : decode cX9_init 142 = .ok (.getfield 67, 3) := by decide +kernel
theorem dX9_init_145 : decode cX9_init 145 = .ok (.iload_n 1, 1) := by decide +kernel
theorem dX9_init_146 : decode cX9_init 146 = .ok (.new 65, 3) := by decide +kernel
theorem dX9_init_149 : decode cX9_init 149 = .ok (.dup, 1) := by decide +kernel
theorem dX9_init_150 : decode cX9_init 150 = .ok (.invokespecial 72, 3) := by decide +kernel
theorem dX9_init_153 : decode cX9_init 153 = .ok (.aastore, 1) := by decide +kernel
theorem dX9_init_154 : decode cX9_init 154 = .ok (.iinc 1 1, 3) := by decide +kernel
theorem dX9_init_157 : decode cX9_init 157 = .ok (.goto (-22), 3) := by decide +kernel
theorem dX9_init_160 : decode cX9_init 160 = .ok (.return_, 1) := by decide +kernel
theorem dX9_clock_0 : decode cX9_clock 0 = .ok (.iload_n 1, 1) := by decide +kernel
theorem dX9_clock_1 : decode cX9_clock 1 = .ok (.iconst 0, 1) := by decide +kernel
theorem dX9_clock_2 : decode cX9_clock 2 = .ok (.bipush 6, 2) := by decide +kernel
theorem dX9_clock_4 : decode cX9_clock 4 = .ok (.invokestatic 73, 3) := by decide +kernel
theorem dX9_clock_7 : decode cX9_clock 7 = .ok (.ifCond .ne 5, 3) := by decide +kernel
theorem dX9_clock_10 : decode cX9_clock 10 = .ok (.iconst (-1), 1) := by decide +kernel
theorem dX9_clock_11 : decode cX9_clock 11 = .ok (.ireturn, 1) := by decide +kernel
theorem dX9_clock_12 : decode cX9_clock 12 = .ok (.iload_n 2, 1) := by decide +kernel
theorem dX9_clock_13 : decode cX9_clock 13 = .ok (.iconst 0, 1) := by decide +kernel
theorem dX9_clock_14 : decode cX9_clock 14 = .ok (.bipush 9, 2) := by decide +kernel
theorem dX9_clock_16 : decode cX9_clock 16 = .ok (.invokestatic 73, 3) := by decide +kernel
theorem dX9_clock_19 : decode cX9_clock 19 = .ok (.ifCond .eq 21, 3) := by decide +kernel
theorem dX9_clock_22 : decode cX9_clock 22 = .ok (.iload_n 3, 1) := by decide +kernel
theorem dX9_clock_23 : decode cX9_clock 23 = .ok (.iconst 0, 1) := by decide +kernel
theorem dX9_clock_24 : decode cX9_clock 24 = .ok (.aload_n 0, 1) := by decide +kernel
theorem dX9_clock_25 : decode cX9_clock 25 = .ok (.getfield 12, 3) := by decide +kernel
theorem dX9_clock_28 : decode cX9_clock 28 = .ok (.getfield 77, 3) := by decide +kernel
theorem dX9_clock_31 : decode cX9_clock 31 = .ok (.getfield 81, 3) := by decide +kernel
theorem dX9_clock_34 : decode cX9_clock 34 = .ok (.invokestatic 73, 3) := by decide +kernel
theorem dX9_clock_37 : decode cX9_clock 37 = .ok (.ifCond .ne 6, 3) := by decide +kernel
theorem dX9_clock_40 : decode cX9_clock 40 = .ok (.bipush (-2), 2) := by decide +kernel
theorem dX9_clock_42 : decode cX9_clock 42 = .ok (.ireturn, 1) := by decide +kernel
theorem dX9_clock_43 : decode cX9_clock 43 = .ok (.aload_n 0, 1) := by decide +kernel
theorem dX9_clock_44 : decode cX9_clock 44 = .ok (.getfield 12, 3) := by decide +kernel
theorem dX9_clock_47 : decode cX9_clock 47 = .ok (.getfield 86, 3) := by decide +kernel
theorem dX9_clock_50 : decode cX9_clock 50 = .ok (.bipush 6, 2) := by decide +kernel
theorem dX9_clock_52 : decode cX9_clock 52 = .ok (.if_icmp .lt 6, 3) := by decide +kernel
theorem dX9_clock_55 : decode cX9_clock 55 = .ok (.bipush (-4), 2) := by decide +kernel
theorem dX9_clock_57 : decode cX9_clock 57 = .ok (.ireturn, 1) := by decide +kernel
theorem dX9_clock_58 : decode cX9_clock 58 = .ok (.aload_n 0, 1) := by decide +kernel
theorem dX9_clock_59 : decode cX9_clock 59 = .ok (.getfield 12, 3) := by decide +kernel
theorem dX9_clock_62 : decode cX9_clock 62 = .ok (.iload_n 1, 1) := by decide +kernel
theorem dX9_clock_63 : decode cX9_clock 63 = .ok (.iload_n 2, 1) := by decide +kernel
theorem dX9_clock_64 : decode cX9_clock 64 = .ok (.iload_n 3, 1) := by decide +kernel
theorem dX9_clock_65 : decode cX9_clock 65 = .ok (.invokevirtual 89, 3) := by decide +kernel
theorem dX9_clock_68 : decode cX9_clock 68 = .ok (.ireturn, 1) := by decide +kernel
theorem dX9_of_0 : decode cX9_of 0 = .ok (.aload_n 0, 1) := by decide +kernel
theorem dX9_of_1 : decode cX9_of 1 = .ok (.iload_n 1, 1) := by decide +kernel
theorem dX9_of_2 : decode cX9_of 2 = .ok (.invokevirtual 93, 3) := by decide +kernel
theorem dX9_of_5 : decode cX9_of 5 = .ok (.ifCond .ne 5, 3) := by decide +kernel
theorem dX9_of_8 : decode cX9_of 8 = .ok (.iconst (-1), 1) := by decide +kernel
theorem dX9_of_9 : decode cX9_of 9 = .ok (.ireturn, 1) := by decide +kernel
theorem dX9_of_10 : decode cX9_of 10 = .ok (.iload_n 2, 1) := by decide +kernel
theorem dX9_of_11 : decode cX9_of 11 = .ok (.tableswitch 152 0 7 #[45, 55, 65, 78, 99, 115, 134, 143], 45) := by decide +kernel
theorem dX9_of_56 : decode cX9_of 56 = .ok (.aload_n 0, 1) := by decide +kernel
theorem dX9_of_57 : decode cX9_of 57 = .ok (.getfield 12, 3) := by decide +kernel
theorem dX9_of_60 : decode cX9_of 60 = .ok (.getfield 97, 3) := by decide +kernel
theorem dX9_of_63 : decode cX9_of 63 = .ok (.iload_n 1, 1) := by decide +kernel
theorem dX9_of_64 : decode cX9_of 64 = .ok (.iaload, 1) := by decide +kernel
theorem dX9_of_65 : decode cX9_of 65 = .ok (.ireturn, 1) := by decide +kernel
theorem dX9_of_66 : decode cX9_of 66 = .ok (.aload_n 0, 1) := by decide +kernel
theorem dX9_of_67 : decode cX9_of 67 = .ok (.getfield 12, 3) := by decide +kernel
theorem dX9_of_70 : decode cX9_of 70 = .ok (.getfield 101, 3) := by decide +kernel
theorem dX9_of_73 : decode cX9_of 73 = .ok (.iload_n 1, 1) := by decide +kernel
theorem dX9_of_74 : decode cX9_of 74 = .ok (.iaload, 1) := by decide +kernel
theorem dX9_of_75 : decode cX9_of 75 = .ok (.ireturn, 1) := by decide +kernel
theorem dX9_of_76 : decode cX9_of 76 = .ok (.aload_n 0, 1) := by decide +kernel
theorem dX9_of_77 : decode cX9_of 77 = .ok (.getfield 12, 3) := by decide +kernel
theorem dX9_of_80 : decode cX9_of 80 = .ok (.getfield 77, 3) := by decide +kernel
theorem dX9_of_83 : decode cX9_of 83 = .ok (.getfield 104, 3) := by decide +kernel
theorem dX9_of_86 : decode cX9_of 86 = .ok (.iload_n 1, 1) := by decide +kernel
theorem dX9_of_87 : decode cX9_of 87 = .ok (.iaload, 1) := by decide +kernel
theorem dX9_of_88 : decode cX9_of 88 = .ok (.ireturn, 1) := by decide +kernel
theorem dX9_of_89 : decode cX9_of 89 = .ok (.aload_n 0, 1) := by decide +kernel
theorem dX9_of_90 : decode cX9_of 90 = .ok (.getfield 12, 3) := by decide +kernel
theorem dX9_of_93 : decode cX9_of 93 = .ok (.getfield 77, 3) := by decide +kernel
theorem dX9_of_96 : decode cX9_of 96 = .ok (.getfield 107, 3) := by decide +kernel
theorem dX9_of_99 : decode cX9_of 99 = .ok (.iload_n 1, 1) := by decide +kernel
theorem dX9_of_100 : decode cX9_of 100 = .ok (.baload, 1) := by decide +kernel
theorem dX9_of_101 : decode cX9_of 101 = .ok (.ifCond .eq 7, 3) := by decide +kernel
theorem dX9_of_104 : decode cX9_of 104 = .ok (.iconst 1, 1) := by decide +kernel
theorem dX9_of_105 : decode cX9_of 105 = .ok (.goto 4, 3) := by decide +kernel
theorem dX9_of_108 : decode cX9_of 108 = .ok (.iconst 0, 1) := by decide +kernel
theorem dX9_of_109 : decode cX9_of 109 = .ok (.ireturn, 1) := by decide +kernel
theorem dX9_of_110 : decode cX9_of 110 = .ok (.aload_n 0, 1) := by decide +kernel
theorem dX9_of_111 : decode cX9_of 111 = .ok (.getfield 12, 3) := by decide +kernel
theorem dX9_of_114 : decode cX9_of 114 = .ok (.aload_n 0, 1) := by decide +kernel
theorem dX9_of_115 : decode cX9_of 115 = .ok (.getfield 12, 3) := by decide +kernel
theorem dX9_of_118 : decode cX9_of 118 = .ok (.getfield 77, 3) := by decide +kernel
theorem dX9_of_121 : decode cX9_of 121 = .ok (.iload_n 1, 1) := by decide +kernel
theorem dX9_of_122 : decode cX9_of 122 = .ok (.invokevirtual 111, 3) := by decide +kernel
theorem dX9_of_125 : decode cX9_of 125 = .ok (.ireturn, 1) := by decide +kernel
theorem dX9_of_126 : decode cX9_of 126 = .ok (.aload_n 0, 1) := by decide +kernel
theorem dX9_of_127 : decode cX9_of 127 = .ok (.getfield 12, 3) := by decide +kernel
theorem dX9_of_130 : decode cX9_of 130 = .ok (.iload_n 1, 1) := by decide +kernel
theorem dX9_of_131 : decode cX9_of 131 = .ok (.aload_n 0, 1) := by decide +kernel
theorem dX9_of_132 : decode cX9_of 132 = .ok (.getfield 12, 3) := by decide +kernel
theorem dX9_of_135 : decode cX9_of 135 = .ok (.getfield 77, 3) := by decide +kernel
theorem dX9_of_138 : decode cX9_of 138 = .ok (.getfield 81, 3) := by decide +kernel
theorem dX9_of_141 : decode cX9_of 141 = .ok (.invokevirtual 115, 3) := by decide +kernel
theorem dX9_of_144 : decode cX9_of 144 = .ok (.ireturn, 1) := by decide +kernel
theorem dX9_of_145 : decode cX9_of 145 = .ok (.aload_n 0, 1) := by decide +kernel
theorem dX9_of_146 : decode cX9_of 146 = .ok (.getfield 47, 3) := by decide +kernel
theorem dX9_of_149 : decode cX9_of 149 = .ok (.iload_n 1, 1) := by decide +kernel
theorem dX9_of_150 : decode cX9_of 150 = .ok (.invokevirtual 119, 3) := by decide +kernel
theorem dX9_of_153 : decode cX9_of 153 = .ok (.ireturn, 1) := by decide +kernel
theorem dX9_of_154 : decode cX9_of 154 = .ok (.aload_n 0, 1) := by decide +kernel
theorem dX9_of_155 : decode cX9_of 155 = .ok (.getfield 47, 3) := by decide +kernel
theorem dX9_of_158 : decode cX9_of 158 = .ok (.iload_n 1, 1) := by decide +kernel
theorem dX9_of_159 : decode cX9_of 159 = .ok (.invokevirtual 123, 3) := by decide +kernel
theorem dX9_of_162 : decode cX9_of 162 = .ok (.ireturn, 1) := by decide +kernel
theorem dX9_of_163 : decode cX9_of 163 = .ok (.iconst (-1), 1) := by decide +kernel
theorem dX9_of_164 : decode cX9_of 164 = .ok (.ireturn, 1) := by decide +kernel
theorem dX9_news_0 : decode cX9_news 0 = .ok (.aload_n 0, 1) := by decide +kernel
theorem dX9_news_1 : decode cX9_news 1 = .ok (.iload_n 1, 1) := by decide +kernel
theorem dX9_news_2 : decode cX9_news 2 = .ok (.invokevirtual 93, 3) := by decide +kernel
theorem dX9_news_5 : decode cX9_news 5 = .ok (.ifCond .ne 5, 3) := by decide +kernel
theorem dX9_news_8 : decode cX9_news 8 = .ok (.iconst (-1), 1) := by decide +kernel
theorem dX9_news_9 : decode cX9_news 9 = .ok (.ireturn, 1) := by decide +kernel
theorem dX9_news_10 : decode cX9_news 10 = .ok (.iload_n 2, 1) := by decide +kernel
theorem dX9_news_11 : decode cX9_news 11 = .ok (.iconst 0, 1) := by decide +kernel
theorem dX9_news_12 : decode cX9_news 12 = .ok (.sipush 9999, 3) := by decide +kernel
theorem dX9_news_15 : decode cX9_news 15 = .ok (.invokestatic 73, 3) := by decide +kernel
theorem dX9_news_18 : decode cX9_news 18 = .ok (.ifCond .eq 15, 3) := by decide +kernel
theorem dX9_news_21 : decode cX9_news 21 = .ok (.aload_n 0, 1) := by decide +kernel
theorem dX9_news_22 : decode cX9_news 22 = .ok (.getfield 12, 3) := by decide +kernel
theorem dX9_news_25 : decode cX9_news 25 = .ok (.iload_n 1, 1) := by decide +kernel
theorem dX9_news_26 : decode cX9_news 26 = .ok (.iload_n 2, 1) := by decide +kernel
theorem dX9_news_27 : decode cX9_news 27 = .ok (.invokevirtual 126, 3) := by decide +kernel
theorem dX9_news_30 : decode cX9_news 30 = .ok (.goto 5, 3) := by decide +kernel
theorem dX9_news_33 : decode cX9_news 33 = .ok (.bipush (-2), 2) := by decide +kernel
theorem dX9_news_35 : decode cX9_news 35 = .ok (.ireturn, 1) := by decide +kernel
theorem dX9_set_0 : decode cX9_set 0 = .ok (.aload_n 0, 1) := by decide +kernel
theorem dX9_set_1 : decode cX9_set 1 = .ok (.iload_n 1, 1) := by decide +kernel
theorem dX9_set_2 : decode cX9_set 2 = .ok (.invokevirtual 93, 3) := by decide +kernel
theorem dX9_set_5 : decode cX9_set 5 = .ok (.ifCond .ne 5, 3) := by decide +kernel
theorem dX9_set_8 : decode cX9_set 8 = .ok (.iconst (-1), 1) := by decide +kernel
theorem dX9_set_9 : decode cX9_set 9 = .ok (.ireturn, 1) := by decide +kernel
theorem dX9_set_10 : decode cX9_set 10 = .ok (.iload_n 2, 1) := by decide +kernel
theorem dX9_set_11 : decode cX9_set 11 = .ok (.iconst 0, 1) := by decide +kernel
theorem dX9_set_12 : decode cX9_set 12 = .ok (.aload_n 0, 1) := by decide +kernel
theorem dX9_set_13 : decode cX9_set 13 = .ok (.getfield 12, 3) := by decide +kernel
theorem dX9_set_16 : decode cX9_set 16 = .ok (.getfield 77, 3) := by decide +kernel
theorem dX9_set_19 : decode cX9_set 19 = .ok (.getfield 81, 3) := by decide +kernel
theorem dX9_set_22 : decode cX9_set 22 = .ok (.invokestatic 73, 3) := by decide +kernel
theorem dX9_set_25 : decode cX9_set 25 = .ok (.ifCond .ne 6, 3) := by decide +kernel
theorem dX9_set_28 : decode cX9_set 28 = .ok (.bipush (-2), 2) := by decide +kernel
theorem dX9_set_30 : decode cX9_set 30 = .ok (.ireturn, 1) := by decide +kernel
theorem dX9_set_31 : decode cX9_set 31 = .ok (.aload_n 0, 1) := by decide +kernel
theorem dX9_set_32 : decode cX9_set 32 = .ok (.getfield 12, 3) := by decide +kernel
theorem dX9_set_35 : decode cX9_set 35 = .ok (.getfield 77, 3) := by decide +kernel
theorem dX9_set_38 : decode cX9_set 38 = .ok (.getfield 104, 3) := by decide +kernel
theorem dX9_set_41 : decode cX9_set 41 = .ok (.iload_n 1, 1) := by decide +kernel
theorem dX9_set_42 : decode cX9_set 42 = .ok (.iaload, 1) := by decide +kernel
theorem dX9_set_43 : decode cX9_set 43 = .ok (.istore_n 3, 1) := by decide +kernel
theorem dX9_set_44 : decode cX9_set 44 = .ok (.aload_n 0, 1) := by decide +kernel
theorem dX9_set_45 : decode cX9_set 45 = .ok (.getfield 12, 3) := by decide +kernel
theorem dX9_set_48 : decode cX9_set 48 = .ok (.getfield 77, 3) := by decide +kernel
theorem dX9_set_51 : decode cX9_set 51 = .ok (.getfield 104, 3) := by decide +kernel
theorem dX9_set_54 : decode cX9_set 54 = .ok (.iload_n 1, 1) := by decide +kernel
theorem dX9_set_55 : decode cX9_set 55 = .ok (.iload_n 2, 1) := by decide +kernel
theorem dX9_set_56 : decode cX9_set 56 = .ok (.iastore, 1) := by decide +kernel
theorem dX9_set_57 : decode cX9_set 57 = .ok (.iload_n 3, 1) := by decide +kernel
theorem dX9_set_58 : decode cX9_set 58 = .ok (.ireturn, 1) := by decide +kernel
theorem dX9_balk_0 : decode cX9_balk 0 = .ok (.aload_n 0, 1) := by decide +kernel
theorem dX9_balk_1 : decode cX9_balk 1 = .ok (.iload_n 1, 1) := by decide +kernel
theorem dX9_balk_2 : decode cX9_balk 2 = .ok (.invokevirtual 93, 3) := by decide +kernel
theorem dX9_balk_5 : decode cX9_balk 5 = .ok (.ifCond .ne 5, 3) := by decide +kernel
theorem dX9_balk_8 : decode cX9_balk 8 = .ok (.iconst (-1), 1) := by decide +kernel
theorem dX9_balk_9 : decode cX9_balk 9 = .ok (.ireturn, 1) := by decide +kernel
theorem dX9_balk_10 : decode cX9_balk 10 = .ok (.aload_n 0, 1) := by decide +kernel
theorem dX9_balk_11 : decode cX9_balk 11 = .ok (.getfield 12, 3) := by decide +kernel
theorem dX9_balk_14 : decode cX9_balk 14 = .ok (.getfield 77, 3) := by decide +kernel
theorem dX9_balk_17 : decode cX9_balk 17 = .ok (.getfield 107, 3) := by decide +kernel
theorem dX9_balk_20 : decode cX9_balk 20 = .ok (.iload_n 1, 1) := by decide +kernel
theorem dX9_balk_21 : decode cX9_balk 21 = .ok (.baload, 1) := by decide +kernel
theorem dX9_balk_22 : decode cX9_balk 22 = .ok (.ifCond .eq 7, 3) := by decide +kernel
theorem dX9_balk_25 : decode cX9_balk 25 = .ok (.iconst 1, 1) := by decide +kernel
theorem dX9_balk_26 : decode cX9_balk 26 = .ok (.goto 4, 3) := by decide +kernel
theorem dX9_balk_29 : decode cX9_balk 29 = .ok (.iconst 0, 1) := by decide +kernel
theorem dX9_balk_30 : decode cX9_balk 30 = .ok (.istore_n 3, 1) := by decide +kernel
theorem dX9_balk_31 : decode cX9_balk 31 = .ok (.aload_n 0, 1) := by decide +kernel
theorem dX9_balk_32 : decode cX9_balk 32 = .ok (.getfield 12, 3) := by decide +kernel
theorem dX9_balk_35 : decode cX9_balk 35 = .ok (.getfield 77, 3) := by decide +kernel
theorem dX9_balk_38 : decode cX9_balk 38 = .ok (.getfield 107, 3) := by decide +kernel
theorem dX9_balk_41 : decode cX9_balk 41 = .ok (.iload_n 1, 1) := by decide +kernel
theorem dX9_balk_42 : decode cX9_balk 42 = .ok (.iload_n 2, 1) := by decide +kernel
theorem dX9_balk_43 : decode cX9_balk 43 = .ok (.bastore, 1) := by decide +kernel
theorem dX9_balk_44 : decode cX9_balk 44 = .ok (.iload_n 3, 1) := by decide +kernel
theorem dX9_balk_45 : decode cX9_balk 45 = .ok (.ireturn, 1) := by decide +kernel
theorem dX9_row_0 : decode cX9_row 0 = .ok (.aload_n 0, 1) := by decide +kernel
theorem dX9_row_1 : decode cX9_row 1 = .ok (.iload_n 1, 1) := by decide +kernel
theorem dX9_row_2 : decode cX9_row 2 = .ok (.invokevirtual 93, 3) := by decide +kernel
theorem dX9_row_5 : decode cX9_row 5 = .ok (.ifCond .eq 12, 3) := by decide +kernel
theorem dX9_row_8 : decode cX9_row 8 = .ok (.iload_n 2, 1) := by decide +kernel
theorem dX9_row_9 : decode cX9_row 9 = .ok (.iconst 0, 1) := by decide +kernel
theorem dX9_row_10 : decode cX9_row 10 = .ok (.iconst 3, 1) := by decide +kernel
theorem dX9_row_11 : decode cX9_row 11 = .ok (.invokestatic 73, 3) := by decide +kernel
theorem dX9_row_14 : decode cX9_row 14 = .ok (.ifCond .ne 5, 3) := by decide +kernel
theorem dX9_row_17 : decode cX9_row 17 = .ok (.iconst (-1), 1) := by decide +kernel
theorem dX9_row_18 : decode cX9_row 18 = .ok (.ireturn, 1) := by decide +kernel
theorem dX9_row_19 : decode cX9_row 19 = .ok (.iload_n 3, 1) := by decide +kernel
theorem dX9_row_20 : decode cX9_row 20 = .ok (.iconst 0, 1) := by decide +kernel
theorem dX9_row_21 : decode cX9_row 21 = .ok (.bipush 9, 2) := by decide +kernel
theorem dX9_row_23 : decode cX9_row 23 = .ok (.invokestatic 73, 3) := by decide +kernel
theorem dX9_row_26 : decode cX9_row 26 = .ok (.ifCond .ne 6, 3) := by decide +kernel
theorem dX9_row_29 : decode cX9_row 29 = .ok (.bipush (-2), 2) := by decide +kernel
theorem dX9_row_31 : decode cX9_row 31 = .ok (.ireturn, 1) := by decide +kernel
theorem dX9_row_32 : decode cX9_row 32 = .ok (.aload_n 0, 1) := by decide +kernel
theorem dX9_row_33 : decode cX9_row 33 = .ok (.getfield 12, 3) := by decide +kernel
theorem dX9_row_36 : decode cX9_row 36 = .ok (.getfield 97, 3) := by decide +kernel
theorem dX9_row_39 : decode cX9_row 39 = .ok (.iload_n 1, 1) := by decide +kernel
theorem dX9_row_40 : decode cX9_row 40 = .ok (.iaload, 1) := by decide +kernel
theorem dX9_row_41 : decode cX9_row 41 = .ok (.bipush 6, 2) := by decide +kernel
theorem dX9_row_43 : decode cX9_row 43 = .ok (.if_icmp .eq 6, 3) := by decide +kernel
theorem dX9_row_46 : decode cX9_row 46 = .ok (.bipush (-3), 2) := by decide +kernel
theorem dX9_row_48 : decode cX9_row 48 = .ok (.ireturn, 1) := by decide +kernel
theorem dX9_row_49 : decode cX9_row 49 = .ok (.aload_n 0, 1) := by decide +kernel
theorem dX9_row_50 : decode cX9_row 50 = .ok (.getfield 12, 3) := by decide +kernel
theorem dX9_row_53 : decode cX9_row 53 = .ok (.getfield 129, 3) := by decide +kernel
theorem dX9_row_56 : decode cX9_row 56 = .ok (.iload_n 1, 1) := by decide +kernel
theorem dX9_row_57 : decode cX9_row 57 = .ok (.iconst 4, 1) := by decide +kernel
theorem dX9_row_58 : decode cX9_row 58 = .ok (.imul, 1) := by decide +kernel
theorem dX9_row_59 : decode cX9_row 59 = .ok (.iload_n 2, 1) := by decide +kernel
theorem dX9_row_60 : decode cX9_row 60 = .ok (.iadd, 1) := by decide +kernel
theorem dX9_row_61 : decode cX9_row 61 = .ok (.iaload, 1) := by decide +kernel
theorem dX9_row_62 : decode cX9_row 62 = .ok (.istore 4, 2) := by decide +kernel
theorem dX9_row_64 : decode cX9_row 64 = .ok (.aload_n 0, 1) := by decide +kernel
theorem dX9_row_65 : decode cX9_row 65 = .ok (.getfield 12, 3) := by decide +kernel
theorem dX9_row_68 : decode cX9_row 68 = .ok (.getfield 129, 3) := by decide +kernel
theorem dX9_row_71 : decode cX9_row 71 = .ok (.iload_n 1, 1) := by decide +kernel
theorem dX9_row_72 : decode cX9_row 72 = .ok (.iconst 4, 1) := by decide +kernel
theorem dX9_row_73 : decode cX9_row 73 = .ok (.imul, 1) := by decide +kernel
theorem dX9_row_74 : decode cX9_row 74 = .ok (.iload_n 2, 1) := by decide +kernel
theorem dX9_row_75 : decode cX9_row 75 = .ok (.iadd, 1) := by decide +kernel
theorem dX9_row_76 : decode cX9_row 76 = .ok (.iload_n 3, 1) := by decide +kernel
theorem dX9_row_77 : decode cX9_row 77 = .ok (.iastore, 1) := by decide +kernel
theorem dX9_row_78 : decode cX9_row 78 = .ok (.iload 4, 2) := by decide +kernel
theorem dX9_row_80 : decode cX9_row 80 = .ok (.ireturn, 1) := by decide +kernel
theorem dX9_feed_0 : decode cX9_feed 0 = .ok (.iload_n 1, 1) := by decide +kernel
theorem dX9_feed_1 : decode cX9_feed 1 = .ok (.iconst 0, 1) := by decide +kernel
theorem dX9_feed_2 : decode cX9_feed 2 = .ok (.bipush 127, 2) := by decide +kernel
theorem dX9_feed_4 : decode cX9_feed 4 = .ok (.invokestatic 73, 3) := by decide +kernel
theorem dX9_feed_7 : decode cX9_feed 7 = .ok (.ifCond .ne 6, 3) := by decide +kernel
theorem dX9_feed_10 : decode cX9_feed 10 = .ok (.bipush (-2), 2) := by decide +kernel
theorem dX9_feed_12 : decode cX9_feed 12 = .ok (.ireturn, 1) := by decide +kernel
theorem dX9_feed_13 : decode cX9_feed 13 = .ok (.aload_n 0, 1) := by decide +kernel
theorem dX9_feed_14 : decode cX9_feed 14 = .ok (.getfield 28, 3) := by decide +kernel
theorem dX9_feed_17 : decode cX9_feed 17 = .ok (.iload_n 1, 1) := by decide +kernel
theorem dX9_feed_18 : decode cX9_feed 18 = .ok (.i2b, 1) := by decide +kernel
theorem dX9_feed_19 : decode cX9_feed 19 = .ok (.invokevirtual 132, 3) := by decide +kernel
theorem dX9_feed_22 : decode cX9_feed 22 = .ok (.ifCond .eq 13, 3) := by decide +kernel
theorem dX9_feed_25 : decode cX9_feed 25 = .ok (.aload_n 0, 1) := by decide +kernel
theorem dX9_feed_26 : decode cX9_feed 26 = .ok (.getfield 28, 3) := by decide +kernel
theorem dX9_feed_29 : decode cX9_feed 29 = .ok (.getfield 136, 3) := by decide +kernel
theorem dX9_feed_32 : decode cX9_feed 32 = .ok (.goto 5, 3) := by decide +kernel
theorem dX9_feed_35 : decode cX9_feed 35 = .ok (.bipush (-4), 2) := by decide +kernel
theorem dX9_feed_37 : decode cX9_feed 37 = .ok (.ireturn, 1) := by decide +kernel
theorem dX9_bench_0 : decode cX9_bench 0 = .ok (.aload_n 0, 1) := by decide +kernel
theorem dX9_bench_1 : decode cX9_bench 1 = .ok (.getfield 38, 3) := by decide +kernel
theorem dX9_bench_4 : decode cX9_bench 4 = .ok (.bipush 6, 2) := by decide +kernel
theorem dX9_bench_6 : decode cX9_bench 6 = .ok (.if_icmp .lt 6, 3) := by decide +kernel
theorem dX9_bench_9 : decode cX9_bench 9 = .ok (.bipush (-4), 2) := by decide +kernel
theorem dX9_bench_11 : decode cX9_bench 11 = .ok (.ireturn, 1) := by decide +kernel
theorem dX9_bench_12 : decode cX9_bench 12 = .ok (.aload_n 0, 1) := by decide +kernel
theorem dX9_bench_13 : decode cX9_bench 13 = .ok (.getfield 34, 3) := by decide +kernel
theorem dX9_bench_16 : decode cX9_bench 16 = .ok (.aload_n 0, 1) := by decide +kernel
theorem dX9_bench_17 : decode cX9_bench 17 = .ok (.getfield 38, 3) := by decide +kernel
theorem dX9_bench_20 : decode cX9_bench 20 = .ok (.aaload, 1) := by decide +kernel
theorem dX9_bench_21 : decode cX9_bench 21 = .ok (.astore_n 1, 1) := by decide +kernel
theorem dX9_bench_22 : decode cX9_bench 22 = .ok (.aload_n 0, 1) := by decide +kernel
theorem dX9_bench_23 : decode cX9_bench 23 = .ok (.getfield 28, 3) := by decide +kernel
theorem dX9_bench_26 : decode cX9_bench 26 = .ok (.aload_n 1, 1) := by decide +kernel
theorem dX9_bench_27 : decode cX9_bench 27 = .ok (.invokevirtual 139, 3) := by decide +kernel
theorem dX9_bench_30 : decode cX9_bench 30 = .ok (.istore_n 2, 1) := by decide +kernel
theorem dX9_bench_31 : decode cX9_bench 31 = .ok (.aload_n 0, 1) := by decide +kernel
theorem dX9_bench_32 : decode cX9_bench 32 = .ok (.getfield 28, 3) := by decide +kernel
theorem dX9_bench_35 : decode cX9_bench 35 = .ok (.iconst 0, 1) := by decide +kernel
theorem dX9_bench_36 : decode cX9_bench 36 = .ok (.putfield 136, 3) := by decide +kernel
theorem dX9_bench_39 : decode cX9_bench 39 = .ok (.iload_n 2, 1) := by decide +kernel
theorem dX9_bench_40 : decode cX9_bench 40 = .ok (.ifCond .ne 14, 3) := by decide +kernel
theorem dX9_bench_43 : decode cX9_bench 43 = .ok (.bipush (-10), 2) := by decide +kernel
theorem dX9_bench_45 : decode cX9_bench 45 = .ok (.aload_n 0, 1) := by decide +kernel
theorem dX9_bench_46 : decode cX9_bench 46 = .ok (.getfield 28, 3) := by decide +kernel
theorem dX9_bench_49 : decode cX9_bench 49 = .ok (.getfield 143, 3) := by decide +kernel
theorem dX9_bench_52 : decode cX9_bench 52 = .ok (.isub, 1) := by decide +kernel
theorem dX9_bench_53 : decode cX9_bench 53 = .ok (.ireturn, 1) := by decide +kernel
theorem dX9_bench_54 : decode cX9_bench 54 = .ok (.aload_n 0, 1) := by decide +kernel
theorem dX9_bench_55 : decode cX9_bench 55 = .ok (.getfield 12, 3) := by decide +kernel
theorem dX9_bench_58 : decode cX9_bench 58 = .ok (.aload_n 1, 1) := by decide +kernel
theorem dX9_bench_59 : decode cX9_bench 59 = .ok (.invokevirtual 146, 3) := by decide +kernel
theorem dX9_bench_62 : decode cX9_bench 62 = .ok (.aload_n 0, 1) := by decide +kernel
theorem dX9_bench_63 : decode cX9_bench 63 = .ok (.dup, 1) := by decide +kernel
theorem dX9_bench_64 : decode cX9_bench 64 = .ok (.getfield 38, 3) := by decide +kernel
theorem dX9_bench_67 : decode cX9_bench 67 = .ok (.iconst 1, 1) := by decide +kernel
theorem dX9_bench_68 : decode cX9_bench 68 = .ok (.iadd, 1) := by decide +kernel
theorem dX9_bench_69 : decode cX9_bench 69 = .ok (.putfield 38, 3) := by decide +kernel
theorem dX9_bench_72 : decode cX9_bench 72 = .ok (.aload_n 0, 1) := by decide +kernel
theorem dX9_bench_73 : decode cX9_bench 73 = .ok (.getfield 38, 3) := by decide +kernel
theorem dX9_bench_76 : decode cX9_bench 76 = .ok (.iconst 1, 1) := by decide +kernel
theorem dX9_bench_77 : decode cX9_bench 77 = .ok (.isub, 1) := by decide +kernel
theorem dX9_bench_78 : decode cX9_bench 78 = .ok (.ireturn, 1) := by decide +kernel
theorem dX9_told_0 : decode cX9_told 0 = .ok (.iload_n 1, 1) := by decide +kernel
theorem dX9_told_1 : decode cX9_told 1 = .ok (.tableswitch 80 0 3 #[31, 42, 50, 65], 31) := by decide +kernel
theorem dX9_told_32 : decode cX9_told 32 = .ok (.aload_n 0, 1) := by decide +kernel
theorem dX9_told_33 : decode cX9_told 33 = .ok (.getfield 12, 3) := by decide +kernel
theorem dX9_told_36 : decode cX9_told 36 = .ok (.getfield 77, 3) := by decide +kernel
theorem dX9_told_39 : decode cX9_told 39 = .ok (.getfield 81, 3) := by decide +kernel
theorem dX9_told_42 : decode cX9_told 42 = .ok (.ireturn, 1) := by decide +kernel
theorem dX9_told_43 : decode cX9_told 43 = .ok (.aload_n 0, 1) := by decide +kernel
theorem dX9_told_44 : decode cX9_told 44 = .ok (.getfield 12, 3) := by decide +kernel
theorem dX9_told_47 : decode cX9_told 47 = .ok (.invokevirtual 150, 3) := by decide +kernel
theorem dX9_told_50 : decode cX9_told 50 = .ok (.ireturn, 1) := by decide +kernel
theorem dX9_told_51 : decode cX9_told 51 = .ok (.aload_n 0, 1) := by decide +kernel
theorem dX9_told_52 : decode cX9_told 52 = .ok (.getfield 12, 3) := by decide +kernel
theorem dX9_told_55 : decode cX9_told 55 = .ok (.aload_n 0, 1) := by decide +kernel
theorem dX9_told_56 : decode cX9_told 56 = .ok (.getfield 12, 3) := by decide +kernel
theorem dX9_told_59 : decode cX9_told 59 = .ok (.getfield 77, 3) := by decide +kernel
theorem dX9_told_62 : decode cX9_told 62 = .ok (.invokevirtual 154, 3) := by decide +kernel
theorem dX9_told_65 : decode cX9_told 65 = .ok (.ireturn, 1) := by decide +kernel
theorem dX9_told_66 : decode cX9_told 66 = .ok (.aload_n 0, 1) := by decide +kernel
theorem dX9_told_67 : decode cX9_told 67 = .ok (.getfield 12, 3) := by decide +kernel
theorem dX9_told_70 : decode cX9_told 70 = .ok (.aload_n 0, 1) := by decide +kernel
theorem dX9_told_71 : decode cX9_told 71 = .ok (.getfield 12, 3) := by decide +kernel
theorem dX9_told_74 : decode cX9_told 74 = .ok (.getfield 77, 3) := by decide +kernel
theorem dX9_told_77 : decode cX9_told 77 = .ok (.invokevirtual 158, 3) := by decide +kernel
theorem dX9_told_80 : decode cX9_told 80 = .ok (.ireturn, 1) := by decide +kernel
theorem dX9_told_81 : decode cX9_told 81 = .ok (.iconst (-1), 1) := by decide +kernel
theorem dX9_told_82 : decode cX9_told 82 = .ok (.ireturn, 1) := by decide +kernel
theorem dX9_tell_0 : decode cX9_tell 0 = .ok (.aload_n 0, 1) := by decide +kernel
theorem dX9_tell_1 : decode cX9_tell 1 = .ok (.iload_n 1, 1) := by decide +kernel
theorem dX9_tell_2 : decode cX9_tell 2 = .ok (.invokevirtual 93, 3) := by decide +kernel
theorem dX9_tell_5 : decode cX9_tell 5 = .ok (.ifCond .ne 5, 3) := by decide +kernel
theorem dX9_tell_8 : decode cX9_tell 8 = .ok (.iconst (-1), 1) := by decide +kernel
theorem dX9_tell_9 : decode cX9_tell 9 = .ok (.ireturn, 1) := by decide +kernel
theorem dX9_tell_10 : decode cX9_tell 10 = .ok (.aload_n 0, 1) := by decide +kernel
theorem dX9_tell_11 : decode cX9_tell 11 = .ok (.getfield 12, 3) := by decide +kernel
theorem dX9_tell_14 : decode cX9_tell 14 = .ok (.getfield 77, 3) := by decide +kernel
theorem dX9_tell_17 : decode cX9_tell 17 = .ok (.getfield 81, 3) := by decide +kernel
theorem dX9_tell_20 : decode cX9_tell 20 = .ok (.sipush 9999, 3) := by decide +kernel
theorem dX9_tell_23 : decode cX9_tell 23 = .ok (.if_icmp .lt 6, 3) := by decide +kernel
theorem dX9_tell_26 : decode cX9_tell 26 = .ok (.bipush (-3), 2) := by decide +kernel
theorem dX9_tell_28 : decode cX9_tell 28 = .ok (.ireturn, 1) := by decide +kernel
theorem dX9_tell_29 : decode cX9_tell 29 = .ok (.aload_n 0, 1) := by decide +kernel
theorem dX9_tell_30 : decode cX9_tell 30 = .ok (.getfield 12, 3) := by decide +kernel
theorem dX9_tell_33 : decode cX9_tell 33 = .ok (.aload_n 0, 1) := by decide +kernel
theorem dX9_tell_34 : decode cX9_tell 34 = .ok (.getfield 12, 3) := by decide +kernel
theorem dX9_tell_37 : decode cX9_tell 37 = .ok (.getfield 77, 3) := by decide +kernel
theorem dX9_tell_40 : decode cX9_tell 40 = .ok (.iload_n 1, 1) := by decide +kernel
theorem dX9_tell_41 : decode cX9_tell 41 = .ok (.invokevirtual 161, 3) := by decide +kernel
theorem dX9_tell_44 : decode cX9_tell 44 = .ok (.ireturn, 1) := by decide +kernel
theorem dX9_pass_0 : decode cX9_pass 0 = .ok (.iload_n 1, 1) := by decide +kernel
theorem dX9_pass_1 : decode cX9_pass 1 = .ok (.iconst 0, 1) := by decide +kernel
theorem dX9_pass_2 : decode cX9_pass 2 = .ok (.bipush 60, 2) := by decide +kernel
theorem dX9_pass_4 : decode cX9_pass 4 = .ok (.invokestatic 73, 3) := by decide +kernel
theorem dX9_pass_7 : decode cX9_pass 7 = .ok (.ifCond .ne 6, 3) := by decide +kernel
theorem dX9_pass_10 : decode cX9_pass 10 = .ok (.bipush (-2), 2) := by decide +kernel
theorem dX9_pass_12 : decode cX9_pass 12 = .ok (.ireturn, 1) := by decide +kernel
theorem dX9_pass_13 : decode cX9_pass 13 = .ok (.aload_n 0, 1) := by decide +kernel
theorem dX9_pass_14 : decode cX9_pass 14 = .ok (.getfield 12, 3) := by decide +kernel
theorem dX9_pass_17 : decode cX9_pass 17 = .ok (.getfield 77, 3) := by decide +kernel
theorem dX9_pass_20 : decode cX9_pass 20 = .ok (.getfield 81, 3) := by decide +kernel
theorem dX9_pass_23 : decode cX9_pass 23 = .ok (.iload_n 1, 1) := by decide +kernel
theorem dX9_pass_24 : decode cX9_pass 24 = .ok (.iadd, 1) := by decide +kernel
theorem dX9_pass_25 : decode cX9_pass 25 = .ok (.sipush 9999, 3) := by decide +kernel
theorem dX9_pass_28 : decode cX9_pass 28 = .ok (.if_icmp .le 6, 3) := by decide +kernel
theorem dX9_pass_31 : decode cX9_pass 31 = .ok (.bipush (-3), 2) := by decide +kernel
theorem dX9_pass_33 : decode cX9_pass 33 = .ok (.ireturn, 1) := by decide +kernel
theorem dX9_pass_34 : decode cX9_pass 34 = .ok (.iconst 0, 1) := by decide +kernel
theorem dX9_pass_35 : decode cX9_pass 35 = .ok (.istore_n 2, 1) := by decide +kernel
theorem dX9_pass_36 : decode cX9_pass 36 = .ok (.iload_n 2, 1) := by decide +kernel
theorem dX9_pass_37 : decode cX9_pass 37 = .ok (.iload_n 1, 1) := by decide +kernel
theorem dX9_pass_38 : decode cX9_pass 38 = .ok (.if_icmp .ge 23, 3) := by decide +kernel
theorem dX9_pass_41 : decode cX9_pass 41 = .ok (.aload_n 0, 1) := by decide +kernel
theorem dX9_pass_42 : decode cX9_pass 42 = .ok (.getfield 12, 3) := by decide +kernel
theorem dX9_pass_45 : decode cX9_pass 45 = .ok (.aload_n 0, 1) := by decide +kernel
theorem dX9_pass_46 : decode cX9_pass 46 = .ok (.getfield 12, 3) := by decide +kernel
theorem dX9_pass_49 : decode cX9_pass 49 = .ok (.getfield 77, 3) := by decide +kernel
theorem dX9_pass_52 : decode cX9_pass 52 = .ok (.invokevirtual 164, 3) := by decide +kernel
theorem dX9_pass_55 : decode cX9_pass 55 = .ok (.iinc 2 1, 3) := by decide +kernel
theorem dX9_pass_58 : decode cX9_pass 58 = .ok (.goto (-22), 3) := by decide +kernel
theorem dX9_pass_61 : decode cX9_pass 61 = .ok (.aload_n 0, 1) := by decide +kernel
theorem dX9_pass_62 : decode cX9_pass 62 = .ok (.getfield 12, 3) := by decide +kernel
theorem dX9_pass_65 : decode cX9_pass 65 = .ok (.getfield 77, 3) := by decide +kernel
theorem dX9_pass_68 : decode cX9_pass 68 = .ok (.getfield 81, 3) := by decide +kernel
theorem dX9_pass_71 : decode cX9_pass 71 = .ok (.ireturn, 1) := by decide +kernel
theorem dX9_on_0 : decode cX9_on 0 = .ok (.aload_n 0, 1) := by decide +kernel
theorem dX9_on_1 : decode cX9_on 1 = .ok (.iload_n 1, 1) := by decide +kernel
theorem dX9_on_2 : decode cX9_on 2 = .ok (.invokevirtual 93, 3) := by decide +kernel
theorem dX9_on_5 : decode cX9_on 5 = .ok (.ifCond .eq 12, 3) := by decide +kernel
theorem dX9_on_8 : decode cX9_on 8 = .ok (.iload_n 3, 1) := by decide +kernel
theorem dX9_on_9 : decode cX9_on 9 = .ok (.iconst 0, 1) := by decide +kernel
theorem dX9_on_10 : decode cX9_on 10 = .ok (.iconst 2, 1) := by decide +kernel
theorem dX9_on_11 : decode cX9_on 11 = .ok (.invokestatic 73, 3) := by decide +kernel
theorem dX9_on_14 : decode cX9_on 14 = .ok (.ifCond .ne 5, 3) := by decide +kernel
theorem dX9_on_17 : decode cX9_on 17 = .ok (.iconst (-1), 1) := by decide +kernel
theorem dX9_on_18 : decode cX9_on 18 = .ok (.ireturn, 1) := by decide +kernel
theorem dX9_on_19 : decode cX9_on 19 = .ok (.iload_n 2, 1) := by decide +kernel
theorem dX9_on_20 : decode cX9_on 20 = .ok (.iconst 0, 1) := by decide +kernel
theorem dX9_on_21 : decode cX9_on 21 = .ok (.bipush 60, 2) := by decide +kernel
theorem dX9_on_23 : decode cX9_on 23 = .ok (.invokestatic 73, 3) := by decide +kernel
theorem dX9_on_26 : decode cX9_on 26 = .ok (.ifCond .eq 16, 3) := by decide +kernel
theorem dX9_on_29 : decode cX9_on 29 = .ok (.aload_n 0, 1) := by decide +kernel
theorem dX9_on_30 : decode cX9_on 30 = .ok (.getfield 47, 3) := by decide +kernel
theorem dX9_on_33 : decode cX9_on 33 = .ok (.iload_n 1, 1) := by decide +kernel
theorem dX9_on_34 : decode cX9_on 34 = .ok (.iload_n 2, 1) := by decide +kernel
theorem dX9_on_35 : decode cX9_on 35 = .ok (.iload_n 3, 1) := by decide +kernel
theorem dX9_on_36 : decode cX9_on 36 = .ok (.invokevirtual 168, 3) := by decide +kernel
theorem dX9_on_39 : decode cX9_on 39 = .ok (.goto 5, 3) := by decide +kernel
theorem dX9_on_42 : decode cX9_on 42 = .ok (.bipush (-2), 2) := by decide +kernel
theorem dX9_on_44 : decode cX9_on 44 = .ok (.ireturn, 1) := by decide +kernel
theorem dX9_soonest_0 : decode cX9_soonest 0 = .ok (.iload_n 1, 1) := by decide +kernel
theorem dX9_soonest_1 : decode cX9_soonest 1 = .ok (.iconst (-1), 1) := by decide +kernel
theorem dX9_soonest_2 : decode cX9_soonest 2 = .ok (.iconst 5, 1) := by decide +kernel
theorem dX9_soonest_3 : decode cX9_soonest 3 = .ok (.invokestatic 73, 3) := by decide +kernel
theorem dX9_soonest_6 : decode cX9_soonest 6 = .ok (.ifCond .ne 5, 3) := by decide +kernel
theorem dX9_soonest_9 : decode cX9_soonest 9 = .ok (.iconst (-1), 1) := by decide +kernel
theorem dX9_soonest_10 : decode cX9_soonest 10 = .ok (.ireturn, 1) := by decide +kernel
theorem dX9_soonest_11 : decode cX9_soonest 11 = .ok (.iload_n 1, 1) := by decide +kernel
theorem dX9_soonest_12 : decode cX9_soonest 12 = .ok (.aload_n 0, 1) := by decide +kernel
theorem dX9_soonest_13 : decode cX9_soonest 13 = .ok (.getfield 12, 3) := by decide +kernel
theorem dX9_soonest_16 : decode cX9_soonest 16 = .ok (.getfield 86, 3) := by decide +kernel
theorem dX9_soonest_19 : decode cX9_soonest 19 = .ok (.if_icmp .lt 6, 3) := by decide +kernel
theorem dX9_soonest_22 : decode cX9_soonest 22 = .ok (.bipush (-5), 2) := by decide +kernel
theorem dX9_soonest_24 : decode cX9_soonest 24 = .ok (.ireturn, 1) := by decide +kernel
theorem dX9_soonest_25 : decode cX9_soonest 25 = .ok (.aload_n 0, 1) := by decide +kernel
theorem dX9_soonest_26 : decode cX9_soonest 26 = .ok (.getfield 54, 3) := by decide +kernel
theorem dX9_soonest_29 : decode cX9_soonest 29 = .ok (.invokevirtual 171, 3) := by decide +kernel
theorem dX9_soonest_32 : decode cX9_soonest 32 = .ok (.iload_n 1, 1) := by decide +kernel
theorem dX9_soonest_33 : decode cX9_soonest 33 = .ok (.ifCond .ge 13, 3) := by decide +kernel
theorem dX9_soonest_36 : decode cX9_soonest 36 = .ok (.aload_n 0, 1) := by decide +kernel
theorem dX9_soonest_37 : decode cX9_soonest 37 = .ok (.getfield 54, 3) := by decide +kernel
theorem dX9_soonest_40 : decode cX9_soonest 40 = .ok (.getfield 174, 3) := by decide +kernel
theorem dX9_soonest_43 : decode cX9_soonest 43 = .ok (.goto 12, 3) := by decide +kernel
theorem dX9_soonest_46 : decode cX9_soonest 46 = .ok (.aload_n 0, 1) := by decide +kernel
theorem dX9_soonest_47 : decode cX9_soonest 47 = .ok (.getfield 54, 3) := by decide +kernel
theorem dX9_soonest_50 : decode cX9_soonest 50 = .ok (.getfield 177, 3) := by decide +kernel
theorem dX9_soonest_53 : decode cX9_soonest 53 = .ok (.iload_n 1, 1) := by decide +kernel
theorem dX9_soonest_54 : decode cX9_soonest 54 = .ok (.iaload, 1) := by decide +kernel
theorem dX9_soonest_55 : decode cX9_soonest 55 = .ok (.ireturn, 1) := by decide +kernel
theorem dX9_most_0 : decode cX9_most 0 = .ok (.iload_n 2, 1) := by decide +kernel
theorem dX9_most_1 : decode cX9_most 1 = .ok (.iconst (-1), 1) := by decide +kernel
theorem dX9_most_2 : decode cX9_most 2 = .ok (.iconst 4, 1) := by decide +kernel
theorem dX9_most_3 : decode cX9_most 3 = .ok (.invokestatic 73, 3) := by decide +kernel
theorem dX9_most_6 : decode cX9_most 6 = .ok (.ifCond .ne 5, 3) := by decide +kernel
theorem dX9_most_9 : decode cX9_most 9 = .ok (.iconst (-1), 1) := by decide +kernel
theorem dX9_most_10 : decode cX9_most 10 = .ok (.ireturn, 1) := by decide +kernel
theorem dX9_most_11 : decode cX9_most 11 = .ok (.iload_n 1, 1) := by decide +kernel
theorem dX9_most_12 : decode cX9_most 12 = .ok (.iconst 1, 1) := by decide +kernel
theorem dX9_most_13 : decode cX9_most 13 = .ok (.iconst 5, 1) := by decide +kernel
theorem dX9_most_14 : decode cX9_most 14 = .ok (.invokestatic 73, 3) := by decide +kernel
theorem dX9_most_17 : decode cX9_most 17 = .ok (.ifCond .ne 6, 3) := by decide +kernel
theorem dX9_most_20 : decode cX9_most 20 = .ok (.bipush (-2), 2) := by decide +kernel
theorem dX9_most_22 : decode cX9_most 22 = .ok (.ireturn, 1) := by decide +kernel
theorem dX9_most_23 : decode cX9_most 23 = .ok (.iload_n 2, 1) := by decide +kernel
theorem dX9_most_24 : decode cX9_most 24 = .ok (.iload_n 1, 1) := by decide +kernel
theorem dX9_most_25 : decode cX9_most 25 = .ok (.if_icmp .ge 13, 3) := by decide +kernel
theorem dX9_most_28 : decode cX9_most 28 = .ok (.aload_n 0, 1) := by decide +kernel
theorem dX9_most_29 : decode cX9_most 29 = .ok (.getfield 12, 3) := by decide +kernel
theorem dX9_most_32 : decode cX9_most 32 = .ok (.getfield 86, 3) := by decide +kernel
theorem dX9_most_35 : decode cX9_most 35 = .ok (.ifCond .ne 6, 3) := by decide +kernel
theorem dX9_most_38 : decode cX9_most 38 = .ok (.bipush (-5), 2) := by decide +kernel
theorem dX9_most_40 : decode cX9_most 40 = .ok (.ireturn, 1) := by decide +kernel
theorem dX9_most_41 : decode cX9_most 41 = .ok (.aload_n 0, 1) := by decide +kernel
theorem dX9_most_42 : decode cX9_most 42 = .ok (.getfield 54, 3) := by decide +kernel
theorem dX9_most_45 : decode cX9_most 45 = .ok (.iload_n 1, 1) := by decide +kernel
theorem dX9_most_46 : decode cX9_most 46 = .ok (.invokevirtual 180, 3) := by decide +kernel
theorem dX9_most_49 : decode cX9_most 49 = .ok (.iload_n 2, 1) := by decide +kernel
theorem dX9_most_50 : decode cX9_most 50 = .ok (.ifCond .ge 13, 3) := by decide +kernel
theorem dX9_most_53 : decode cX9_most 53 = .ok (.aload_n 0, 1) := by decide +kernel
theorem dX9_most_54 : decode cX9_most 54 = .ok (.getfield 54, 3) := by decide +kernel
theorem dX9_most_57 : decode cX9_most 57 = .ok (.getfield 174, 3) := by decide +kernel
theorem dX9_most_60 : decode cX9_most 60 = .ok (.goto 12, 3) := by decide +kernel
theorem dX9_most_63 : decode cX9_most 63 = .ok (.aload_n 0, 1) := by decide +kernel
theorem dX9_most_64 : decode cX9_most 64 = .ok (.getfield 54, 3) := by decide +kernel
theorem dX9_most_67 : decode cX9_most 67 = .ok (.getfield 177, 3) := by decide +kernel
theorem dX9_most_70 : decode cX9_most 70 = .ok (.iload_n 2, 1) := by decide +kernel
theorem dX9_most_71 : decode cX9_most 71 = .ok (.iaload, 1) := by decide +kernel
theorem dX9_most_72 : decode cX9_most 72 = .ok (.ireturn, 1) := by decide +kernel
theorem dX9_next_0 : decode cX9_next 0 = .ok (.aload_n 0, 1) := by decide +kernel
theorem dX9_next_1 : decode cX9_next 1 = .ok (.getfield 47, 3) := by decide +kernel
theorem dX9_next_4 : decode cX9_next 4 = .ok (.invokevirtual 184, 3) := by decide +kernel
theorem dX9_next_7 : decode cX9_next 7 = .ok (.ireturn, 1) := by decide +kernel
theorem dX9_see_0 : decode cX9_see 0 = .ok (.iload_n 1, 1) := by decide +kernel
theorem dX9_see_1 : decode cX9_see 1 = .ok (.iconst (-1), 1) := by decide +kernel
theorem dX9_see_2 : decode cX9_see 2 = .ok (.if_icmp .ne 14, 3) := by decide +kernel
theorem dX9_see_5 : decode cX9_see 5 = .ok (.aload_n 0, 1) := by decide +kernel
theorem dX9_see_6 : decode cX9_see 6 = .ok (.getfield 12, 3) := by decide +kernel
theorem dX9_see_9 : decode cX9_see 9 = .ok (.getfield 187, 3) := by decide +kernel
theorem dX9_see_12 : decode cX9_see 12 = .ok (.invokevirtual 191, 3) := by decide +kernel
theorem dX9_see_15 : decode cX9_see 15 = .ok (.ireturn, 1) := by decide +kernel
theorem dX9_see_16 : decode cX9_see 16 = .ok (.aload_n 0, 1) := by decide +kernel
theorem dX9_see_17 : decode cX9_see 17 = .ok (.iload_n 1, 1) := by decide +kernel
theorem dX9_see_18 : decode cX9_see 18 = .ok (.invokevirtual 93, 3) := by decide +kernel
theorem dX9_see_21 : decode cX9_see 21 = .ok (.ifCond .ne 5, 3) := by decide +kernel
theorem dX9_see_24 : decode cX9_see 24 = .ok (.iconst (-1), 1) := by decide +kernel
theorem dX9_see_25 : decode cX9_see 25 = .ok (.ireturn, 1) := by decide +kernel
theorem dX9_see_26 : decode cX9_see 26 = .ok (.iload_n 2, 1) := by decide +kernel
theorem dX9_see_27 : decode cX9_see 27 = .ok (.iconst 0, 1) := by decide +kernel
theorem dX9_see_28 : decode cX9_see 28 = .ok (.sipush 999, 3) := by decide +kernel
theorem dX9_see_31 : decode cX9_see 31 = .ok (.invokestatic 73, 3) := by decide +kernel
theorem dX9_see_34 : decode cX9_see 34 = .ok (.ifCond .eq 13, 3) := by decide +kernel
theorem dX9_see_37 : decode cX9_see 37 = .ok (.iload_n 3, 1) := by decide +kernel
theorem dX9_see_38 : decode cX9_see 38 = .ok (.iconst 0, 1) := by decide +kernel
theorem dX9_see_39 : decode cX9_see 39 = .ok (.bipush 20, 2) := by decide +kernel
theorem dX9_see_41 : decode cX9_see 41 = .ok (.invokestatic 73, 3) := by decide +kernel
theorem dX9_see_44 : decode cX9_see 44 = .ok (.ifCond .ne 6, 3) := by decide +kernel
theorem dX9_see_47 : decode cX9_see 47 = .ok (.bipush (-2), 2) := by decide +kernel
theorem dX9_see_49 : decode cX9_see 49 = .ok (.ireturn, 1) := by decide +kernel
theorem dX9_see_50 : decode cX9_see 50 = .ok (.aload_n 0, 1) := by decide +kernel
theorem dX9_see_51 : decode cX9_see 51 = .ok (.getfield 12, 3) := by decide +kernel
theorem dX9_see_54 : decode cX9_see 54 = .ok (.getfield 187, 3) := by decide +kernel
theorem dX9_see_57 : decode cX9_see 57 = .ok (.iload_n 1, 1) := by decide +kernel
theorem dX9_see_58 : decode cX9_see 58 = .ok (.iload_n 2, 1) := by decide +kernel
theorem dX9_see_59 : decode cX9_see 59 = .ok (.iload_n 3, 1) := by decide +kernel
theorem dX9_see_60 : decode cX9_see 60 = .ok (.invokevirtual 196, 3) := by decide +kernel
theorem dX9_see_63 : decode cX9_see 63 = .ok (.ireturn, 1) := by decide +kernel
theorem dX9_since_0 : decode cX9_since 0 = .ok (.aload_n 0, 1) := by decide +kernel
theorem dX9_since_1 : decode cX9_since 1 = .ok (.iload_n 1, 1) := by decide +kernel
theorem dX9_since_2 : decode cX9_since 2 = .ok (.invokevirtual 93, 3) := by decide +kernel
theorem dX9_since_5 : decode cX9_since 5 = .ok (.ifCond .eq 12, 3) := by decide +kernel
theorem dX9_since_8 : decode cX9_since 8 = .ok (.iload_n 2, 1) := by decide +kernel
theorem dX9_since_9 : decode cX9_since 9 = .ok (.iconst 0, 1) := by decide +kernel
theorem dX9_since_10 : decode cX9_since 10 = .ok (.iconst 1, 1) := by decide +kernel
theorem dX9_since_11 : decode cX9_since 11 = .ok (.invokestatic 73, 3) := by decide +kernel
theorem dX9_since_14 : decode cX9_since 14 = .ok (.ifCond .ne 5, 3) := by decide +kernel
theorem dX9_since_17 : decode cX9_since 17 = .ok (.iconst (-1), 1) := by decide +kernel
theorem dX9_since_18 : decode cX9_since 18 = .ok (.ireturn, 1) := by decide +kernel
theorem dX9_since_19 : decode cX9_since 19 = .ok (.aload_n 0, 1) := by decide +kernel
theorem dX9_since_20 : decode cX9_since 20 = .ok (.getfield 47, 3) := by decide +kernel
theorem dX9_since_23 : decode cX9_since 23 = .ok (.iload_n 1, 1) := by decide +kernel
theorem dX9_since_24 : decode cX9_since 24 = .ok (.invokevirtual 199, 3) := by decide +kernel
theorem dX9_since_27 : decode cX9_since 27 = .ok (.iload_n 2, 1) := by decide +kernel
theorem dX9_since_28 : decode cX9_since 28 = .ok (.ifCond .ne 13, 3) := by decide +kernel
theorem dX9_since_31 : decode cX9_since 31 = .ok (.aload_n 0, 1) := by decide +kernel
theorem dX9_since_32 : decode cX9_since 32 = .ok (.getfield 47, 3) := by decide +kernel
theorem dX9_since_35 : decode cX9_since 35 = .ok (.getfield 202, 3) := by decide +kernel
theorem dX9_since_38 : decode cX9_since 38 = .ok (.goto 10, 3) := by decide +kernel
theorem dX9_since_41 : decode cX9_since 41 = .ok (.aload_n 0, 1) := by decide +kernel
theorem dX9_since_42 : decode cX9_since 42 = .ok (.getfield 47, 3) := by decide +kernel
theorem dX9_since_45 : decode cX9_since 45 = .ok (.getfield 205, 3) := by decide +kernel
theorem dX9_since_48 : decode cX9_since 48 = .ok (.ireturn, 1) := by decide +kernel
theorem dX9_can_0 : decode cX9_can 0 = .ok (.aload_n 0, 1) := by decide +kernel
theorem dX9_can_1 : decode cX9_can 1 = .ok (.iload_n 1, 1) := by decide +kernel
theorem dX9_can_2 : decode cX9_can 2 = .ok (.invokevirtual 93, 3) := by decide +kernel
theorem dX9_can_5 : decode cX9_can 5 = .ok (.ifCond .eq 12, 3) := by decide +kernel
theorem dX9_can_8 : decode cX9_can 8 = .ok (.iload_n 2, 1) := by decide +kernel
theorem dX9_can_9 : decode cX9_can 9 = .ok (.iconst 0, 1) := by decide +kernel
theorem dX9_can_10 : decode cX9_can 10 = .ok (.iconst 1, 1) := by decide +kernel
theorem dX9_can_11 : decode cX9_can 11 = .ok (.invokestatic 73, 3) := by decide +kernel
theorem dX9_can_14 : decode cX9_can 14 = .ok (.ifCond .ne 5, 3) := by decide +kernel
theorem dX9_can_17 : decode cX9_can 17 = .ok (.iconst (-1), 1) := by decide +kernel
theorem dX9_can_18 : decode cX9_can 18 = .ok (.ireturn, 1) := by decide +kernel
theorem dX9_can_19 : decode cX9_can 19 = .ok (.aload_n 0, 1) := by decide +kernel
theorem dX9_can_20 : decode cX9_can 20 = .ok (.getfield 47, 3) := by decide +kernel
theorem dX9_can_23 : decode cX9_can 23 = .ok (.iload_n 1, 1) := by decide +kernel
theorem dX9_can_24 : decode cX9_can 24 = .ok (.invokevirtual 208, 3) := by decide +kernel
theorem dX9_can_27 : decode cX9_can 27 = .ok (.iload_n 2, 1) := by decide +kernel
theorem dX9_can_28 : decode cX9_can 28 = .ok (.ifCond .ne 13, 3) := by decide +kernel
theorem dX9_can_31 : decode cX9_can 31 = .ok (.aload_n 0, 1) := by decide +kernel
theorem dX9_can_32 : decode cX9_can 32 = .ok (.getfield 47, 3) := by decide +kernel
theorem dX9_can_35 : decode cX9_can 35 = .ok (.getfield 202, 3) := by decide +kernel
theorem dX9_can_38 : decode cX9_can 38 = .ok (.goto 10, 3) := by decide +kernel
theorem dX9_can_41 : decode cX9_can 41 = .ok (.aload_n 0, 1) := by decide +kernel
theorem dX9_can_42 : decode cX9_can 42 = .ok (.getfield 47, 3) := by decide +kernel
theorem dX9_can_45 : decode cX9_can 45 = .ok (.getfield 205, 3) := by decide +kernel
theorem dX9_can_48 : decode cX9_can 48 = .ok (.ireturn, 1) := by decide +kernel
theorem dX9_odds_0 : decode cX9_odds 0 = .ok (.iload_n 1, 1) := by decide +kernel
theorem dX9_odds_1 : decode cX9_odds 1 = .ok (.iconst 0, 1) := by decide +kernel
theorem dX9_odds_2 : decode cX9_odds 2 = .ok (.bipush 60, 2) := by decide +kernel
theorem dX9_odds_4 : decode cX9_odds 4 = .ok (.invokestatic 73, 3) := by decide +kernel
theorem dX9_odds_7 : decode cX9_odds 7 = .ok (.ifCond .ne 7, 3) := by decide +kernel
theorem dX9_odds_10 : decode cX9_odds 10 = .ok (.ldc2_w 211, 3) := by decide +kernel
theorem dX9_odds_13 : decode cX9_odds 13 = .ok (.lreturn, 1) := by decide +kernel
theorem dX9_odds_14 : decode cX9_odds 14 = .ok (.aload_n 0, 1) := by decide +kernel
theorem dX9_odds_15 : decode cX9_odds 15 = .ok (.getfield 47, 3) := by decide +kernel
theorem dX9_odds_18 : decode cX9_odds 18 = .ok (.iload_n 1, 1) := by decide +kernel
theorem dX9_odds_19 : decode cX9_odds 19 = .ok (.invokevirtual 213, 3) := by decide +kernel
theorem dX9_odds_22 : decode cX9_odds 22 = .ok (.aload_n 0, 1) := by decide +kernel
theorem dX9_odds_23 : decode cX9_odds 23 = .ok (.getfield 12, 3) := by decide +kernel
theorem dX9_odds_26 : decode cX9_odds 26 = .ok (.getfield 86, 3) := by decide +kernel
theorem dX9_odds_29 : decode cX9_odds 29 = .ok (.iload_n 2, 1) := by decide +kernel
theorem dX9_odds_30 : decode cX9_odds 30 = .ok (.invokestatic 216, 3) := by decide +kernel
theorem dX9_odds_33 : decode cX9_odds 33 = .ok (.lreturn, 1) := by decide +kernel
theorem dX9_mean_0 : decode cX9_mean 0 = .ok (.aload_n 0, 1) := by decide +kernel
theorem dX9_mean_1 : decode cX9_mean 1 = .ok (.getfield 12, 3) := by decide +kernel
theorem dX9_mean_4 : decode cX9_mean 4 = .ok (.aload_n 0, 1) := by decide +kernel
theorem dX9_mean_5 : decode cX9_mean 5 = .ok (.getfield 12, 3) := by decide +kernel
theorem dX9_mean_8 : decode cX9_mean 8 = .ok (.getfield 77, 3) := by decide +kernel
theorem dX9_mean_11 : decode cX9_mean 11 = .ok (.invokevirtual 158, 3) := by decide +kernel
theorem dX9_mean_14 : decode cX9_mean 14 = .ok (.aload_n 0, 1) := by decide +kernel
theorem dX9_mean_15 : decode cX9_mean 15 = .ok (.getfield 12, 3) := by decide +kernel
theorem dX9_mean_18 : decode cX9_mean 18 = .ok (.getfield 86, 3) := by decide +kernel
theorem dX9_mean_21 : decode cX9_mean 21 = .ok (.iload_n 1, 1) := by decide +kernel
theorem dX9_mean_22 : decode cX9_mean 22 = .ok (.invokestatic 216, 3) := by decide +kernel
theorem dX9_mean_25 : decode cX9_mean 25 = .ok (.lreturn, 1) := by decide +kernel
theorem dX9_month_0 : decode cX9_month 0 = .ok (.iload_n 1, 1) := by decide +kernel
theorem dX9_month_1 : decode cX9_month 1 = .ok (.iconst (-1), 1) := by decide +kernel
theorem dX9_month_2 : decode cX9_month 2 = .ok (.if_icmp .ne 14, 3) := by decide +kernel
theorem dX9_month_5 : decode cX9_month 5 = .ok (.aload_n 0, 1) := by decide +kernel
theorem dX9_month_6 : decode cX9_month 6 = .ok (.getfield 12, 3) := by decide +kernel
theorem dX9_month_9 : decode cX9_month 9 = .ok (.getfield 220, 3) := by decide +kernel
theorem dX9_month_12 : decode cX9_month 12 = .ok (.invokevirtual 191, 3) := by decide +kernel
theorem dX9_month_15 : decode cX9_month 15 = .ok (.ireturn, 1) := by decide +kernel
theorem dX9_month_16 : decode cX9_month 16 = .ok (.aload_n 0, 1) := by decide +kernel
theorem dX9_month_17 : decode cX9_month 17 = .ok (.iload_n 1, 1) := by decide +kernel
theorem dX9_month_18 : decode cX9_month 18 = .ok (.invokevirtual 93, 3) := by decide +kernel
theorem dX9_month_21 : decode cX9_month 21 = .ok (.ifCond .ne 11, 3) := by decide +kernel
theorem dX9_month_24 : decode cX9_month 24 = .ok (.iload_n 1, 1) := by decide +kernel
theorem dX9_month_25 : decode cX9_month 25 = .ok (.bipush 6, 2) := by decide +kernel
theorem dX9_month_27 : decode cX9_month 27 = .ok (.if_icmp .eq 5, 3) := by decide +kernel
theorem dX9_month_30 : decode cX9_month 30 = .ok (.iconst (-1), 1) := by decide +kernel
theorem dX9_month_31 : decode cX9_month 31 = .ok (.ireturn, 1) := by decide +kernel
theorem dX9_month_32 : decode cX9_month 32 = .ok (.aload_n 0, 1) := by decide +kernel
theorem dX9_month_33 : decode cX9_month 33 = .ok (.getfield 12, 3) := by decide +kernel
theorem dX9_month_36 : decode cX9_month 36 = .ok (.getfield 220, 3) := by decide +kernel
theorem dX9_month_39 : decode cX9_month 39 = .ok (.iload_n 1, 1) := by decide +kernel
theorem dX9_month_40 : decode cX9_month 40 = .ok (.iconst 0, 1) := by decide +kernel
theorem dX9_month_41 : decode cX9_month 41 = .ok (.iconst 0, 1) := by decide +kernel
theorem dX9_month_42 : decode cX9_month 42 = .ok (.invokevirtual 196, 3) := by decide +kernel
theorem dX9_month_45 : decode cX9_month 45 = .ok (.ireturn, 1) := by decide +kernel
theorem dX9_ends_0 : decode cX9_ends 0 = .ok (.iload_n 1, 1) := by decide +kernel
theorem dX9_ends_1 : decode cX9_ends 1 = .ok (.iconst 0, 1) := by decide +kernel
theorem dX9_ends_2 : decode cX9_ends 2 = .ok (.iconst 1, 1) := by decide +kernel
theorem dX9_ends_3 : decode cX9_ends 3 = .ok (.invokestatic 73, 3) := by decide +kernel
theorem dX9_ends_6 : decode cX9_ends 6 = .ok (.ifCond .ne 5, 3) := by decide +kernel
theorem dX9_ends_9 : decode cX9_ends 9 = .ok (.iconst (-1), 1) := by decide +kernel
theorem dX9_ends_10 : decode cX9_ends 10 = .ok (.ireturn, 1) := by decide +kernel
theorem dX9_ends_11 : decode cX9_ends 11 = .ok (.aload_n 0, 1) := by decide +kernel
theorem dX9_ends_12 : decode cX9_ends 12 = .ok (.getfield 47, 3) := by decide +kernel
theorem dX9_ends_15 : decode cX9_ends 15 = .ok (.iload_n 1, 1) := by decide +kernel
theorem dX9_ends_16 : decode cX9_ends 16 = .ok (.invokevirtual 223, 3) := by decide +kernel
theorem dX9_ends_19 : decode cX9_ends 19 = .ok (.ireturn, 1) := by decide +kernel
theorem dX9_book_0 : decode cX9_book 0 = .ok (.iload_n 1, 1) := by decide +kernel
theorem dX9_book_1 : decode cX9_book 1 = .ok (.iconst (-1), 1) := by decide +kernel
theorem dX9_book_2 : decode cX9_book 2 = .ok (.if_icmp .ne 14, 3) := by decide +kernel
theorem dX9_book_5 : decode cX9_book 5 = .ok (.aload_n 0, 1) := by decide +kernel
theorem dX9_book_6 : decode cX9_book 6 = .ok (.getfield 12, 3) := by decide +kernel
theorem dX9_book_9 : decode cX9_book 9 = .ok (.getfield 226, 3) := by decide +kernel
theorem dX9_book_12 : decode cX9_book 12 = .ok (.invokevirtual 191, 3) := by decide +kernel
theorem dX9_book_15 : decode cX9_book 15 = .ok (.ireturn, 1) := by decide +kernel
theorem dX9_book_16 : decode cX9_book 16 = .ok (.aload_n 0, 1) := by decide +kernel
theorem dX9_book_17 : decode cX9_book 17 = .ok (.iload_n 1, 1) := by decide +kernel
theorem dX9_book_18 : decode cX9_book 18 = .ok (.invokevirtual 93, 3) := by decide +kernel
theorem dX9_book_21 : decode cX9_book 21 = .ok (.ifCond .ne 5, 3) := by decide +kernel
theorem dX9_book_24 : decode cX9_book 24 = .ok (.iconst (-1), 1) := by decide +kernel
theorem dX9_book_25 : decode cX9_book 25 = .ok (.ireturn, 1) := by decide +kernel
theorem dX9_book_26 : decode cX9_book 26 = .ok (.iload_n 2, 1) := by decide +kernel
theorem dX9_book_27 : decode cX9_book 27 = .ok (.iconst 0, 1) := by decide +kernel
theorem dX9_book_28 : decode cX9_book 28 = .ok (.sipush 9999, 3) := by decide +kernel
theorem dX9_book_31 : decode cX9_book 31 = .ok (.invokestatic 73, 3) := by decide +kernel
theorem dX9_book_34 : decode cX9_book 34 = .ok (.ifCond .ne 6, 3) := by decide +kernel
theorem dX9_book_37 : decode cX9_book 37 = .ok (.bipush (-2), 2) := by decide +kernel
theorem dX9_book_39 : decode cX9_book 39 = .ok (.ireturn, 1) := by decide +kernel
theorem dX9_book_40 : decode cX9_book 40 = .ok (.aload_n 0, 1) := by decide +kernel
theorem dX9_book_41 : decode cX9_book 41 = .ok (.getfield 12, 3) := by decide +kernel
theorem dX9_book_44 : decode cX9_book 44 = .ok (.getfield 226, 3) := by decide +kernel
theorem dX9_book_47 : decode cX9_book 47 = .ok (.iload_n 1, 1) := by decide +kernel
theorem dX9_book_48 : decode cX9_book 48 = .ok (.iload_n 2, 1) := by decide +kernel
theorem dX9_book_49 : decode cX9_book 49 = .ok (.iconst 0, 1) := by decide +kernel
theorem dX9_book_50 : decode cX9_book 50 = .ok (.invokevirtual 196, 3) := by decide +kernel
theorem dX9_book_53 : decode cX9_book 53 = .ok (.ireturn, 1) := by decide +kernel
theorem dX9_looked_0 : decode cX9_looked 0 = .ok (.iconst 0, 1) := by decide +kernel
theorem dX9_looked_1 : decode cX9_looked 1 = .ok (.istore_n 1, 1) := by decide +kernel
theorem dX9_looked_2 : decode cX9_looked 2 = .ok (.iload_n 1, 1) := by decide +kernel
theorem dX9_looked_3 : decode cX9_looked 3 = .ok (.aload_n 0, 1) := by decide +kernel
theorem dX9_looked_4 : decode cX9_looked 4 = .ok (.getfield 12, 3) := by decide +kernel
theorem dX9_looked_7 : decode cX9_looked 7 = .ok (.getfield 226, 3) := by decide +kernel
theorem dX9_looked_10 : decode cX9_looked 10 = .ok (.getfield 229, 3) := by decide +kernel
theorem dX9_looked_13 : decode cX9_looked 13 = .ok (.if_icmp .ge 49, 3) := by decide +kernel
theorem dX9_looked_16 : decode cX9_looked 16 = .ok (.aload_n 0, 1) := by decide +kernel
theorem dX9_looked_17 : decode cX9_looked 17 = .ok (.getfield 12, 3) := by decide +kernel
theorem dX9_looked_20 : decode cX9_looked 20 = .ok (.getfield 77, 3) := by decide +kernel
theorem dX9_looked_23 : decode cX9_looked 23 = .ok (.getfield 104, 3) := by decide +kernel
theorem dX9_looked_26 : decode cX9_looked 26 = .ok (.aload_n 0, 1) := by decide +kernel
theorem dX9_looked_27 : decode cX9_looked 27 = .ok (.getfield 12, 3) := by decide +kernel
theorem dX9_looked_30 : decode cX9_looked 30 = .ok (.getfield 226, 3) := by decide +kernel
theorem dX9_looked_33 : decode cX9_looked 33 = .ok (.iload_n 1, 1) := by decide +kernel
theorem dX9_looked_34 : decode cX9_looked 34 = .ok (.iconst 0, 1) := by decide +kernel
theorem dX9_looked_35 : decode cX9_looked 35 = .ok (.invokevirtual 232, 3) := by decide +kernel
theorem dX9_looked_38 : decode cX9_looked 38 = .ok (.iaload, 1) := by decide +kernel
theorem dX9_looked_39 : decode cX9_looked 39 = .ok (.aload_n 0, 1) := by decide +kernel
theorem dX9_looked_40 : decode cX9_looked 40 = .ok (.getfield 12, 3) := by decide +kernel
theorem dX9_looked_43 : decode cX9_looked 43 = .ok (.getfield 226, 3) := by decide +kernel
theorem dX9_looked_46 : decode cX9_looked 46 = .ok (.iload_n 1, 1) := by decide +kernel
theorem dX9_looked_47 : decode cX9_looked 47 = .ok (.iconst 1, 1) := by decide +kernel
theorem dX9_looked_48 : decode cX9_looked 48 = .ok (.invokevirtual 232, 3) := by decide +kernel
theorem dX9_looked_51 : decode cX9_looked 51 = .ok (.if_icmp .eq 5, 3) := by decide +kernel
theorem dX9_looked_54 : decode cX9_looked 54 = .ok (.iload_n 1, 1) := by decide +kernel
theorem dX9_looked_55 : decode cX9_looked 55 = .ok (.ireturn, 1) := by decide +kernel
theorem dX9_looked_56 : decode cX9_looked 56 = .ok (.iinc 1 1, 3) := by decide +kernel
theorem dX9_looked_59 : decode cX9_looked 59 = .ok (.goto (-57), 3) := by decide +kernel
theorem dX9_looked_62 : decode cX9_looked 62 = .ok (.bipush (-5), 2) := by decide +kernel
theorem dX9_looked_64 : decode cX9_looked 64 = .ok (.ireturn, 1) := by decide +kernel
theorem dX9_judge_0 : decode cX9_judge 0 = .ok (.iload_n 1, 1) := by decide +kernel
theorem dX9_judge_1 : decode cX9_judge 1 = .ok (.invokestatic 235, 3) := by decide +kernel
theorem dX9_judge_4 : decode cX9_judge 4 = .ok (.ifCond .ne 5, 3) := by decide +kernel
theorem dX9_judge_7 : decode cX9_judge 7 = .ok (.iconst (-1), 1) := by decide +kernel
theorem dX9_judge_8 : decode cX9_judge 8 = .ok (.ireturn, 1) := by decide +kernel
end
section
theorem dX9_judge_9 : decode cX9_judge 9 = .ok (.aload_n 0, 1) := by decide +kernel
theorem dX9_judge_10 : decode cX9_judge 10 = .ok (.getfield 67, 3) := by decide +kernel
theorem dX9_judge_13 : decode cX9_judge 13 = .ok (.iload_n 1, 1) := by decide +kernel
theorem dX9_judge_14 : decode cX9_judge 14 = .ok (.aaload, 1) := by decide +kernel
theorem dX9_judge_15 : decode cX9_judge 15 = .ok (.astore_n 3, 1) := by decide +kernel
theorem dX9_judge_16 : decode cX9_judge 16 = .ok (.aload_n 3, 1) := by decide +kernel
theorem dX9_judge_17 : decode cX9_judge 17 = .ok (.getfield 238, 3) := by decide +kernel
theorem dX9_judge_20 : decode cX9_judge 20 = .ok (.iconst 1, 1) := by decide +kernel
theorem dX9_judge_21 : decode cX9_judge 21 = .ok (.if_icmp .eq 14, 3) := by decide +kernel
theorem dX9_judge_24 : decode cX9_judge 24 = .ok (.aload_n 3, 1) := by decide +kernel
theorem dX9_judge_25 : decode cX9_judge 25 = .ok (.getfield 238, 3) := by decide +kernel
theorem dX9_judge_28 : decode cX9_judge 28 = .ok (.iconst (-1), 1) := by decide +kernel
theorem dX9_judge_29 : decode cX9_judge 29 = .ok (.if_icmp .eq 6, 3) := by decide +kernel
theorem dX9_judge_32 : decode cX9_judge 32 = .ok (.bipush (-12), 2) := by decide +kernel
theorem dX9_judge_34 : decode cX9_judge 34 = .ok (.ireturn, 1) := by decide +kernel
theorem dX9_judge_35 : decode cX9_judge 35 = .ok (.iload_n 2, 1) := by decide +kernel
theorem dX9_judge_36 : decode cX9_judge 36 = .ok (.istore 4, 2) := by decide +kernel
theorem dX9_judge_38 : decode cX9_judge 38 = .ok (.iconst 0, 1) := by decide +kernel
theorem dX9_judge_39 : decode cX9_judge 39 = .ok (.istore 5, 2) := by decide +kernel
theorem dX9_judge_41 : decode cX9_judge 41 = .ok (.iload 5, 2) := by decide +kernel
theorem dX9_judge_43 : decode cX9_judge 43 = .ok (.aload_n 0, 1) := by decide +kernel
theorem dX9_judge_44 : decode cX9_judge 44 = .ok (.getfield 12, 3) := by decide +kernel
theorem dX9_judge_47 : decode cX9_judge 47 = .ok (.getfield 86, 3) := by decide +kernel
theorem dX9_judge_50 : decode cX9_judge 50 = .ok (.if_icmp .ge 55, 3) := by decide +kernel
theorem dX9_judge_53 : decode cX9_judge 53 = .ok (.aload_n 3, 1) := by decide +kernel
theorem dX9_judge_54 : decode cX9_judge 54 = .ok (.iload 4, 2) := by decide +kernel
theorem dX9_judge_56 : decode cX9_judge 56 = .ok (.invokevirtual 241, 3) := by decide +kernel
theorem dX9_judge_59 : decode cX9_judge 59 = .ok (.ifCond .ne 9, 3) := by decide +kernel
theorem dX9_judge_62 : decode cX9_judge 62 = .ok (.bipush 100, 2) := by decide +kernel
theorem dX9_judge_64 : decode cX9_judge 64 = .ok (.iload 5, 2) := by decide +kernel
theorem dX9_judge_66 : decode cX9_judge 66 = .ok (.iadd, 1) := by decide +kernel
theorem dX9_judge_67 : decode cX9_judge 67 = .ok (.ireturn, 1) := by decide +kernel
theorem dX9_judge_68 : decode cX9_judge 68 = .ok (.aload_n 3, 1) := by decide +kernel
theorem dX9_judge_69 : decode cX9_judge 69 = .ok (.getfield 244, 3) := by decide +kernel
theorem dX9_judge_72 : decode cX9_judge 72 = .ok (.iload 4, 2) := by decide +kernel
theorem dX9_judge_74 : decode cX9_judge 74 = .ok (.laload, 1) := by decide +kernel
theorem dX9_judge_75 : decode cX9_judge 75 = .ok (.aload_n 0, 1) := by decide +kernel
theorem dX9_judge_76 : decode cX9_judge 76 = .ok (.getfield 12, 3) := by decide +kernel
theorem dX9_judge_79 : decode cX9_judge 79 = .ok (.getfield 77, 3) := by decide +kernel
theorem dX9_judge_82 : decode cX9_judge 82 = .ok (.getfield 104, 3) := by decide +kernel
theorem dX9_judge_85 : decode cX9_judge 85 = .ok (.iload 5, 2) := by decide +kernel
theorem dX9_judge_87 : decode cX9_judge 87 = .ok (.iaload, 1) := by decide +kernel
theorem dX9_judge_88 : decode cX9_judge 88 = .ok (.i2l, 1) := by decide +kernel
theorem dX9_judge_89 : decode cX9_judge 89 = .ok (.lcmp, 1) := by decide +kernel
theorem dX9_judge_90 : decode cX9_judge 90 = .ok (.ifCond .eq 6, 3) := by decide +kernel
theorem dX9_judge_93 : decode cX9_judge 93 = .ok (.iload 5, 2) := by decide +kernel
theorem dX9_judge_95 : decode cX9_judge 95 = .ok (.ireturn, 1) := by decide +kernel
theorem dX9_judge_96 : decode cX9_judge 96 = .ok (.iinc 4 1, 3) := by decide +kernel
theorem dX9_judge_99 : decode cX9_judge 99 = .ok (.iinc 5 1, 3) := by decide +kernel
theorem dX9_judge_102 : decode cX9_judge 102 = .ok (.goto (-61), 3) := by decide +kernel
theorem dX9_judge_105 : decode cX9_judge 105 = .ok (.bipush (-5), 2) := by decide +kernel
theorem dX9_judge_107 : decode cX9_judge 107 = .ok (.ireturn, 1) := by decide +kernel
theorem dX9_image_0 : decode cX9_image 0 = .ok (.aload_n 0, 1) := by decide +kernel
theorem dX9_image_1 : decode cX9_image 1 = .ok (.getfield 18, 3) := by decide +kernel
theorem dX9_image_4 : decode cX9_image 4 = .ok (.aload_n 0, 1) := by decide +kernel
theorem dX9_image_5 : decode cX9_image 5 = .ok (.getfield 12, 3) := by decide +kernel
theorem dX9_image_8 : decode cX9_image 8 = .ok (.invokevirtual 248, 3) := by decide +kernel
theorem dX9_image_11 : decode cX9_image 11 = .ok (.aload_n 0, 1) := by decide +kernel
theorem dX9_image_12 : decode cX9_image 12 = .ok (.iconst 1, 1) := by decide +kernel
theorem dX9_image_13 : decode cX9_image 13 = .ok (.putfield 21, 3) := by decide +kernel
theorem dX9_image_16 : decode cX9_image 16 = .ok (.aload_n 0, 1) := by decide +kernel
theorem dX9_image_17 : decode cX9_image 17 = .ok (.getfield 12, 3) := by decide +kernel
theorem dX9_image_20 : decode cX9_image 20 = .ok (.getfield 86, 3) := by decide +kernel
theorem dX9_image_23 : decode cX9_image 23 = .ok (.ireturn, 1) := by decide +kernel
theorem dX9_undo_0 : decode cX9_undo 0 = .ok (.aload_n 0, 1) := by decide +kernel
theorem dX9_undo_1 : decode cX9_undo 1 = .ok (.getfield 21, 3) := by decide +kernel
theorem dX9_undo_4 : decode cX9_undo 4 = .ok (.ifCond .ne 6, 3) := by decide +kernel
theorem dX9_undo_7 : decode cX9_undo 7 = .ok (.bipush (-3), 2) := by decide +kernel
theorem dX9_undo_9 : decode cX9_undo 9 = .ok (.ireturn, 1) := by decide +kernel
theorem dX9_undo_10 : decode cX9_undo 10 = .ok (.aload_n 0, 1) := by decide +kernel
theorem dX9_undo_11 : decode cX9_undo 11 = .ok (.getfield 12, 3) := by decide +kernel
theorem dX9_undo_14 : decode cX9_undo 14 = .ok (.aload_n 0, 1) := by decide +kernel
theorem dX9_undo_15 : decode cX9_undo 15 = .ok (.getfield 18, 3) := by decide +kernel
theorem dX9_undo_18 : decode cX9_undo 18 = .ok (.invokevirtual 248, 3) := by decide +kernel
theorem dX9_undo_21 : decode cX9_undo 21 = .ok (.aload_n 0, 1) := by decide +kernel
theorem dX9_undo_22 : decode cX9_undo 22 = .ok (.getfield 12, 3) := by decide +kernel
theorem dX9_undo_25 : decode cX9_undo 25 = .ok (.getfield 86, 3) := by decide +kernel
theorem dX9_undo_28 : decode cX9_undo 28 = .ok (.ireturn, 1) := by decide +kernel
theorem dX9_act_0 : decode cX9_act 0 = .ok (.aload_n 0, 1) := by decide +kernel
theorem dX9_act_1 : decode cX9_act 1 = .ok (.getfield 61, 3) := by decide +kernel
theorem dX9_act_4 : decode cX9_act 4 = .ok (.iconst 0, 1) := by decide +kernel
theorem dX9_act_5 : decode cX9_act 5 = .ok (.putfield 251, 3) := by decide +kernel
theorem dX9_act_8 : decode cX9_act 8 = .ok (.aload_n 0, 1) := by decide +kernel
theorem dX9_act_9 : decode cX9_act 9 = .ok (.iload_n 1, 1) := by decide +kernel
theorem dX9_act_10 : decode cX9_act 10 = .ok (.invokevirtual 93, 3) := by decide +kernel
theorem dX9_act_13 : decode cX9_act 13 = .ok (.ifCond .eq 12, 3) := by decide +kernel
theorem dX9_act_16 : decode cX9_act 16 = .ok (.iload_n 2, 1) := by decide +kernel
theorem dX9_act_17 : decode cX9_act 17 = .ok (.iconst 0, 1) := by decide +kernel
theorem dX9_act_18 : decode cX9_act 18 = .ok (.iconst 2, 1) := by decide +kernel
theorem dX9_act_19 : decode cX9_act 19 = .ok (.invokestatic 73, 3) := by decide +kernel
theorem dX9_act_22 : decode cX9_act 22 = .ok (.ifCond .ne 5, 3) := by decide +kernel
theorem dX9_act_25 : decode cX9_act 25 = .ok (.iconst 0, 1) := by decide +kernel
theorem dX9_act_26 : decode cX9_act 26 = .ok (.ireturn, 1) := by decide +kernel
theorem dX9_act_27 : decode cX9_act 27 = .ok (.aload_n 0, 1) := by decide +kernel
theorem dX9_act_28 : decode cX9_act 28 = .ok (.getfield 61, 3) := by decide +kernel
theorem dX9_act_31 : decode cX9_act 31 = .ok (.iload_n 1, 1) := by decide +kernel
theorem dX9_act_32 : decode cX9_act 32 = .ok (.aload_n 0, 1) := by decide +kernel
theorem dX9_act_33 : decode cX9_act 33 = .ok (.getfield 12, 3) := by decide +kernel
theorem dX9_act_36 : decode cX9_act 36 = .ok (.getfield 97, 3) := by decide +kernel
theorem dX9_act_39 : decode cX9_act 39 = .ok (.iload_n 1, 1) := by decide +kernel
theorem dX9_act_40 : decode cX9_act 40 = .ok (.iaload, 1) := by decide +kernel
theorem dX9_act_41 : decode cX9_act 41 = .ok (.aload_n 0, 1) := by decide +kernel
theorem dX9_act_42 : decode cX9_act 42 = .ok (.getfield 12, 3) := by decide +kernel
theorem dX9_act_45 : decode cX9_act 45 = .ok (.getfield 101, 3) := by decide +kernel
theorem dX9_act_48 : decode cX9_act 48 = .ok (.iload_n 1, 1) := by decide +kernel
theorem dX9_act_49 : decode cX9_act 49 = .ok (.iaload, 1) := by decide +kernel
theorem dX9_act_50 : decode cX9_act 50 = .ok (.iload_n 2, 1) := by decide +kernel
theorem dX9_act_51 : decode cX9_act 51 = .ok (.iload_n 3, 1) := by decide +kernel
theorem dX9_act_52 : decode cX9_act 52 = .ok (.invokevirtual 254, 3) := by decide +kernel
theorem dX9_act_55 : decode cX9_act 55 = .ok (.ireturn, 1) := by decide +kernel
theorem dX9_trace_0 : decode cX9_trace 0 = .ok (.iload_n 1, 1) := by decide +kernel
theorem dX9_trace_1 : decode cX9_trace 1 = .ok (.iconst 0, 1) := by decide +kernel
theorem dX9_trace_2 : decode cX9_trace 2 = .ok (.aload_n 0, 1) := by decide +kernel
theorem dX9_trace_3 : decode cX9_trace 3 = .ok (.getfield 61, 3) := by decide +kernel
theorem dX9_trace_6 : decode cX9_trace 6 = .ok (.getfield 251, 3) := by decide +kernel
theorem dX9_trace_9 : decode cX9_trace 9 = .ok (.bipush 20, 2) := by decide +kernel
theorem dX9_trace_11 : decode cX9_trace 11 = .ok (.invokestatic 258, 3) := by decide +kernel
theorem dX9_trace_14 : decode cX9_trace 14 = .ok (.iconst 1, 1) := by decide +kernel
theorem dX9_trace_15 : decode cX9_trace 15 = .ok (.isub, 1) := by decide +kernel
theorem dX9_trace_16 : decode cX9_trace 16 = .ok (.invokestatic 73, 3) := by decide +kernel
theorem dX9_trace_19 : decode cX9_trace 19 = .ok (.ifCond .eq 15, 3) := by decide +kernel
theorem dX9_trace_22 : decode cX9_trace 22 = .ok (.aload_n 0, 1) := by decide +kernel
theorem dX9_trace_23 : decode cX9_trace 23 = .ok (.getfield 61, 3) := by decide +kernel
theorem dX9_trace_26 : decode cX9_trace 26 = .ok (.getfield 263, 3) := by decide +kernel
theorem dX9_trace_29 : decode cX9_trace 29 = .ok (.iload_n 1, 1) := by decide +kernel
theorem dX9_trace_30 : decode cX9_trace 30 = .ok (.iaload, 1) := by decide +kernel
theorem dX9_trace_31 : decode cX9_trace 31 = .ok (.goto 4, 3) := by decide +kernel
theorem dX9_trace_34 : decode cX9_trace 34 = .ok (.iconst (-1), 1) := by decide +kernel
theorem dX9_trace_35 : decode cX9_trace 35 = .ok (.ireturn, 1) := by decide +kernel
theorem dX9_taken_0 : decode cX9_taken 0 = .ok (.iload_n 2, 1) := by decide +kernel
theorem dX9_taken_1 : decode cX9_taken 1 = .ok (.iconst 0, 1) := by decide +kernel
theorem dX9_taken_2 : decode cX9_taken 2 = .ok (.bipush 6, 2) := by decide +kernel
theorem dX9_taken_4 : decode cX9_taken 4 = .ok (.invokestatic 73, 3) := by decide +kernel
theorem dX9_taken_7 : decode cX9_taken 7 = .ok (.ifCond .ne 6, 3) := by decide +kernel
theorem dX9_taken_10 : decode cX9_taken 10 = .ok (.bipush (-2), 2) := by decide +kernel
theorem dX9_taken_12 : decode cX9_taken 12 = .ok (.ireturn, 1) := by decide +kernel
theorem dX9_taken_13 : decode cX9_taken 13 = .ok (.aload_n 0, 1) := by decide +kernel
theorem dX9_taken_14 : decode cX9_taken 14 = .ok (.iload_n 1, 1) := by decide +kernel
theorem dX9_taken_15 : decode cX9_taken 15 = .ok (.invokevirtual 93, 3) := by decide +kernel
theorem dX9_taken_18 : decode cX9_taken 18 = .ok (.ifCond .ne 6, 3) := by decide +kernel
theorem dX9_taken_21 : decode cX9_taken 21 = .ok (.bipush (-11), 2) := by decide +kernel
theorem dX9_taken_23 : decode cX9_taken 23 = .ok (.ireturn, 1) := by decide +kernel
theorem dX9_taken_24 : decode cX9_taken 24 = .ok (.aload_n 0, 1) := by decide +kernel
theorem dX9_taken_25 : decode cX9_taken 25 = .ok (.getfield 12, 3) := by decide +kernel
theorem dX9_taken_28 : decode cX9_taken 28 = .ok (.getfield 97, 3) := by decide +kernel
theorem dX9_taken_31 : decode cX9_taken 31 = .ok (.iload_n 1, 1) := by decide +kernel
theorem dX9_taken_32 : decode cX9_taken 32 = .ok (.iaload, 1) := by decide +kernel
theorem dX9_taken_33 : decode cX9_taken 33 = .ok (.istore_n 3, 1) := by decide +kernel
theorem dX9_taken_34 : decode cX9_taken 34 = .ok (.iload_n 3, 1) := by decide +kernel
theorem dX9_taken_35 : decode cX9_taken 35 = .ok (.iload_n 2, 1) := by decide +kernel
theorem dX9_taken_36 : decode cX9_taken 36 = .ok (.invokestatic 266, 3) := by decide +kernel
theorem dX9_taken_39 : decode cX9_taken 39 = .ok (.ifCond .eq 7, 3) := by decide +kernel
theorem dX9_taken_42 : decode cX9_taken 42 = .ok (.iload_n 3, 1) := by decide +kernel
theorem dX9_taken_43 : decode cX9_taken 43 = .ok (.goto 5, 3) := by decide +kernel
theorem dX9_taken_46 : decode cX9_taken 46 = .ok (.bipush (-12), 2) := by decide +kernel
theorem dX9_taken_48 : decode cX9_taken 48 = .ok (.ireturn, 1) := by decide +kernel
theorem dX9_count_0 : decode cX9_count 0 = .ok (.iload_n 1, 1) := by decide +kernel
theorem dX9_count_1 : decode cX9_count 1 = .ok (.tableswitch 105 0 6 #[43, 51, 56, 67, 78, 89, 97], 43) := by decide +kernel
theorem dX9_count_44 : decode cX9_count 44 = .ok (.aload_n 0, 1) := by decide +kernel
theorem dX9_count_45 : decode cX9_count 45 = .ok (.getfield 12, 3) := by decide +kernel
theorem dX9_count_48 : decode cX9_count 48 = .ok (.getfield 86, 3) := by decide +kernel
theorem dX9_count_51 : decode cX9_count 51 = .ok (.ireturn, 1) := by decide +kernel
theorem dX9_count_52 : decode cX9_count 52 = .ok (.aload_n 0, 1) := by decide +kernel
theorem dX9_count_53 : decode cX9_count 53 = .ok (.getfield 38, 3) := by decide +kernel
theorem dX9_count_56 : decode cX9_count 56 = .ok (.ireturn, 1) := by decide +kernel
theorem dX9_count_57 : decode cX9_count 57 = .ok (.aload_n 0, 1) := by decide +kernel
theorem dX9_count_58 : decode cX9_count 58 = .ok (.getfield 12, 3) := by decide +kernel
theorem dX9_count_61 : decode cX9_count 61 = .ok (.getfield 187, 3) := by decide +kernel
theorem dX9_count_64 : decode cX9_count 64 = .ok (.getfield 229, 3) := by decide +kernel
theorem dX9_count_67 : decode cX9_count 67 = .ok (.ireturn, 1) := by decide +kernel
theorem dX9_count_68 : decode cX9_count 68 = .ok (.aload_n 0, 1) := by decide +kernel
theorem dX9_count_69 : decode cX9_count 69 = .ok (.getfield 12, 3) := by decide +kernel
theorem dX9_count_72 : decode cX9_count 72 = .ok (.getfield 220, 3) := by decide +kernel
theorem dX9_count_75 : decode cX9_count 75 = .ok (.getfield 229, 3) := by decide +kernel
theorem dX9_count_78 : decode cX9_count 78 = .ok (.ireturn, 1) := by decide +kernel
theorem dX9_count_79 : decode cX9_count 79 = .ok (.aload_n 0, 1) := by decide +kernel
theorem dX9_count_80 : decode cX9_count 80 = .ok (.getfield 12, 3) := by decide +kernel
theorem dX9_count_83 : decode cX9_count 83 = .ok (.getfield 226, 3) := by decide +kernel
theorem dX9_count_86 : decode cX9_count 86 = .ok (.getfield 229, 3) := by decide +kernel
theorem dX9_count_89 : decode cX9_count 89 = .ok (.ireturn, 1) := by decide +kernel
theorem dX9_count_90 : decode cX9_count 90 = .ok (.aload_n 0, 1) := by decide +kernel
theorem dX9_count_91 : decode cX9_count 91 = .ok (.getfield 28, 3) := by decide +kernel
theorem dX9_count_94 : decode cX9_count 94 = .ok (.getfield 136, 3) := by decide +kernel
theorem dX9_count_97 : decode cX9_count 97 = .ok (.ireturn, 1) := by decide +kernel
theorem dX9_count_98 : decode cX9_count 98 = .ok (.aload_n 0, 1) := by decide +kernel
theorem dX9_count_99 : decode cX9_count 99 = .ok (.getfield 61, 3) := by decide +kernel
theorem dX9_count_102 : decode cX9_count 102 = .ok (.getfield 251, 3) := by decide +kernel
theorem dX9_count_105 : decode cX9_count 105 = .ok (.ireturn, 1) := by decide +kernel
theorem dX9_count_106 : decode cX9_count 106 = .ok (.bipush (-2), 2) := by decide +kernel
theorem dX9_count_108 : decode cX9_count 108 = .ok (.ireturn, 1) := by decide +kernel
theorem dX9_tape_0 : decode cX9_tape 0 = .ok (.iload_n 1, 1) := by decide +kernel
theorem dX9_tape_1 : decode cX9_tape 1 = .ok (.invokestatic 235, 3) := by decide +kernel
theorem dX9_tape_4 : decode cX9_tape 4 = .ok (.ifCond .ne 5, 3) := by decide +kernel
theorem dX9_tape_7 : decode cX9_tape 7 = .ok (.iconst (-1), 1) := by decide +kernel
theorem dX9_tape_8 : decode cX9_tape 8 = .ok (.ireturn, 1) := by decide +kernel
theorem dX9_tape_9 : decode cX9_tape 9 = .ok (.iload_n 2, 1) := by decide +kernel
theorem dX9_tape_10 : decode cX9_tape 10 = .ok (.iconst (-1), 1) := by decide +kernel
theorem dX9_tape_11 : decode cX9_tape 11 = .ok (.if_icmp .ne 16, 3) := by decide +kernel
theorem dX9_tape_14 : decode cX9_tape 14 = .ok (.aload_n 0, 1) := by decide +kernel
theorem dX9_tape_15 : decode cX9_tape 15 = .ok (.getfield 67, 3) := by decide +kernel
theorem dX9_tape_18 : decode cX9_tape 18 = .ok (.iload_n 1, 1) := by decide +kernel
theorem dX9_tape_19 : decode cX9_tape 19 = .ok (.aaload, 1) := by decide +kernel
theorem dX9_tape_20 : decode cX9_tape 20 = .ok (.iload_n 2, 1) := by decide +kernel
theorem dX9_tape_21 : decode cX9_tape 21 = .ok (.iconst 0, 1) := by decide +kernel
theorem dX9_tape_22 : decode cX9_tape 22 = .ok (.invokevirtual 270, 3) := by decide +kernel
theorem dX9_tape_25 : decode cX9_tape 25 = .ok (.iconst 1, 1) := by decide +kernel
theorem dX9_tape_26 : decode cX9_tape 26 = .ok (.ireturn, 1) := by decide +kernel
theorem dX9_tape_27 : decode cX9_tape 27 = .ok (.iload_n 2, 1) := by decide +kernel
theorem dX9_tape_28 : decode cX9_tape 28 = .ok (.iconst 0, 1) := by decide +kernel
theorem dX9_tape_29 : decode cX9_tape 29 = .ok (.iconst 4, 1) := by decide +kernel
theorem dX9_tape_30 : decode cX9_tape 30 = .ok (.invokestatic 73, 3) := by decide +kernel
theorem dX9_tape_33 : decode cX9_tape 33 = .ok (.ifCond .eq 9, 3) := by decide +kernel
theorem dX9_tape_36 : decode cX9_tape 36 = .ok (.iload_n 3, 1) := by decide +kernel
theorem dX9_tape_37 : decode cX9_tape 37 = .ok (.bipush 60, 2) := by decide +kernel
theorem dX9_tape_39 : decode cX9_tape 39 = .ok (.if_icmp .le 6, 3) := by decide +kernel
theorem dX9_tape_42 : decode cX9_tape 42 = .ok (.bipush (-2), 2) := by decide +kernel
theorem dX9_tape_44 : decode cX9_tape 44 = .ok (.ireturn, 1) := by decide +kernel
theorem dX9_tape_45 : decode cX9_tape 45 = .ok (.iload_n 3, 1) := by decide +kernel
theorem dX9_tape_46 : decode cX9_tape 46 = .ok (.ifCond .ge 6, 3) := by decide +kernel
theorem dX9_tape_49 : decode cX9_tape 49 = .ok (.bipush (-14), 2) := by decide +kernel
theorem dX9_tape_51 : decode cX9_tape 51 = .ok (.ireturn, 1) := by decide +kernel
theorem dX9_tape_52 : decode cX9_tape 52 = .ok (.aload_n 0, 1) := by decide +kernel
theorem dX9_tape_53 : decode cX9_tape 53 = .ok (.getfield 67, 3) := by decide +kernel
theorem dX9_tape_56 : decode cX9_tape 56 = .ok (.iload_n 1, 1) := by decide +kernel
theorem dX9_tape_57 : decode cX9_tape 57 = .ok (.aaload, 1) := by decide +kernel
theorem dX9_tape_58 : decode cX9_tape 58 = .ok (.iload_n 2, 1) := by decide +kernel
theorem dX9_tape_59 : decode cX9_tape 59 = .ok (.iload_n 3, 1) := by decide +kernel
theorem dX9_tape_60 : decode cX9_tape 60 = .ok (.invokevirtual 270, 3) := by decide +kernel
theorem dX9_tape_63 : decode cX9_tape 63 = .ok (.iconst 1, 1) := by decide +kernel
theorem dX9_tape_64 : decode cX9_tape 64 = .ok (.ireturn, 1) := by decide +kernel
theorem dX9_item_0 : decode cX9_item 0 = .ok (.iload_n 1, 1) := by decide +kernel
theorem dX9_item_1 : decode cX9_item 1 = .ok (.invokestatic 235, 3) := by decide +kernel
theorem dX9_item_4 : decode cX9_item 4 = .ok (.ifCond .ne 5, 3) := by decide +kernel
theorem dX9_item_7 : decode cX9_item 7 = .ok (.iconst (-1), 1) := by decide +kernel
theorem dX9_item_8 : decode cX9_item 8 = .ok (.ireturn, 1) := by decide +kernel
theorem dX9_item_9 : decode cX9_item 9 = .ok (.aload_n 0, 1) := by decide +kernel
theorem dX9_item_10 : decode cX9_item 10 = .ok (.getfield 67, 3) := by decide +kernel
theorem dX9_item_13 : decode cX9_item 13 = .ok (.iload_n 1, 1) := by decide +kernel
theorem dX9_item_14 : decode cX9_item 14 = .ok (.aaload, 1) := by decide +kernel
theorem dX9_item_15 : decode cX9_item 15 = .ok (.getfield 238, 3) := by decide +kernel
theorem dX9_item_18 : decode cX9_item 18 = .ok (.iconst (-1), 1) := by decide +kernel
theorem dX9_item_19 : decode cX9_item 19 = .ok (.if_icmp .ne 6, 3) := by decide +kernel
theorem dX9_item_22 : decode cX9_item 22 = .ok (.bipush (-11), 2) := by decide +kernel
theorem dX9_item_24 : decode cX9_item 24 = .ok (.ireturn, 1) := by decide +kernel
theorem dX9_item_25 : decode cX9_item 25 = .ok (.aload_n 0, 1) := by decide +kernel
theorem dX9_item_26 : decode cX9_item 26 = .ok (.getfield 67, 3) := by decide +kernel
theorem dX9_item_29 : decode cX9_item 29 = .ok (.iload_n 1, 1) := by decide +kernel
theorem dX9_item_30 : decode cX9_item 30 = .ok (.aaload, 1) := by decide +kernel
theorem dX9_item_31 : decode cX9_item 31 = .ok (.iload_n 2, 1) := by decide +kernel
theorem dX9_item_32 : decode cX9_item 32 = .ok (.invokevirtual 241, 3) := by decide +kernel
theorem dX9_item_35 : decode cX9_item 35 = .ok (.ifCond .ne 6, 3) := by decide +kernel
theorem dX9_item_38 : decode cX9_item 38 = .ok (.bipush (-13), 2) := by decide +kernel
theorem dX9_item_40 : decode cX9_item 40 = .ok (.ireturn, 1) := by decide +kernel
theorem dX9_item_41 : decode cX9_item 41 = .ok (.aload_n 0, 1) := by decide +kernel
theorem dX9_item_42 : decode cX9_item 42 = .ok (.getfield 67, 3) := by decide +kernel
theorem dX9_item_45 : decode cX9_item 45 = .ok (.iload_n 1, 1) := by decide +kernel
theorem dX9_item_46 : decode cX9_item 46 = .ok (.aaload, 1) := by decide +kernel
theorem dX9_item_47 : decode cX9_item 47 = .ok (.getfield 244, 3) := by decide +kernel
theorem dX9_item_50 : decode cX9_item 50 = .ok (.iload_n 2, 1) := by decide +kernel
theorem dX9_item_51 : decode cX9_item 51 = .ok (.aload_n 0, 1) := by decide +kernel
theorem dX9_item_52 : decode cX9_item 52 = .ok (.getfield 67, 3) := by decide +kernel
theorem dX9_item_55 : decode cX9_item 55 = .ok (.iload_n 1, 1) := by decide +kernel
theorem dX9_item_56 : decode cX9_item 56 = .ok (.aaload, 1) := by decide +kernel
theorem dX9_item_57 : decode cX9_item 57 = .ok (.lload_n 3, 1) := by decide +kernel
theorem dX9_item_58 : decode cX9_item 58 = .ok (.invokevirtual 274, 3) := by decide +kernel
theorem dX9_item_61 : decode cX9_item 61 = .ok (.lastore, 1) := by decide +kernel
theorem dX9_item_62 : decode cX9_item 62 = .ok (.iconst 1, 1) := by decide +kernel
theorem dX9_item_63 : decode cX9_item 63 = .ok (.ireturn, 1) := by decide +kernel
theorem dX9_read_0 : decode cX9_read 0 = .ok (.iload_n 1, 1) := by decide +kernel
theorem dX9_read_1 : decode cX9_read 1 = .ok (.invokestatic 235, 3) := by decide +kernel
theorem dX9_read_4 : decode cX9_read 4 = .ok (.ifCond .eq 16, 3) := by decide +kernel
theorem dX9_read_7 : decode cX9_read 7 = .ok (.aload_n 0, 1) := by decide +kernel
theorem dX9_read_8 : decode cX9_read 8 = .ok (.getfield 67, 3) := by decide +kernel
theorem dX9_read_11 : decode cX9_read 11 = .ok (.iload_n 1, 1) := by decide +kernel
theorem dX9_read_12 : decode cX9_read 12 = .ok (.aaload, 1) := by decide +kernel
theorem dX9_read_13 : decode cX9_read 13 = .ok (.iload_n 2, 1) := by decide +kernel
theorem dX9_read_14 : decode cX9_read 14 = .ok (.invokevirtual 241, 3) := by decide +kernel
theorem dX9_read_17 : decode cX9_read 17 = .ok (.ifCond .ne 7, 3) := by decide +kernel
theorem dX9_read_20 : decode cX9_read 20 = .ok (.ldc2_w 211, 3) := by decide +kernel
theorem dX9_read_23 : decode cX9_read 23 = .ok (.lreturn, 1) := by decide +kernel
theorem dX9_read_24 : decode cX9_read 24 = .ok (.aload_n 0, 1) := by decide +kernel
theorem dX9_read_25 : decode cX9_read 25 = .ok (.getfield 67, 3) := by decide +kernel
theorem dX9_read_28 : decode cX9_read 28 = .ok (.iload_n 1, 1) := by decide +kernel
theorem dX9_read_29 : decode cX9_read 29 = .ok (.aaload, 1) := by decide +kernel
theorem dX9_read_30 : decode cX9_read 30 = .ok (.getfield 244, 3) := by decide +kernel
theorem dX9_read_33 : decode cX9_read 33 = .ok (.iload_n 2, 1) := by decide +kernel
theorem dX9_read_34 : decode cX9_read 34 = .ok (.laload, 1) := by decide +kernel
theorem dX9_read_35 : decode cX9_read 35 = .ok (.lreturn, 1) := by decide +kernel
theorem dX9_shift_0 : decode cX9_shift 0 = .ok (.iload_n 1, 1) := by decide +kernel
theorem dX9_shift_1 : decode cX9_shift 1 = .ok (.invokestatic 235, 3) := by decide +kernel
theorem dX9_shift_4 : decode cX9_shift 4 = .ok (.ifCond .eq 10, 3) := by decide +kernel
theorem dX9_shift_7 : decode cX9_shift 7 = .ok (.iload_n 3, 1) := by decide +kernel
theorem dX9_shift_8 : decode cX9_shift 8 = .ok (.invokestatic 235, 3) := by decide +kernel
theorem dX9_shift_11 : decode cX9_shift 11 = .ok (.ifCond .ne 5, 3) := by decide +kernel
theorem dX9_shift_14 : decode cX9_shift 14 = .ok (.iconst (-1), 1) := by decide +kernel
theorem dX9_shift_15 : decode cX9_shift 15 = .ok (.ireturn, 1) := by decide +kernel
theorem dX9_shift_16 : decode cX9_shift 16 = .ok (.aload_n 0, 1) := by decide +kernel
theorem dX9_shift_17 : decode cX9_shift 17 = .ok (.getfield 67, 3) := by decide +kernel
theorem dX9_shift_20 : decode cX9_shift 20 = .ok (.iload_n 1, 1) := by decide +kernel
theorem dX9_shift_21 : decode cX9_shift 21 = .ok (.aaload, 1) := by decide +kernel
theorem dX9_shift_22 : decode cX9_shift 22 = .ok (.astore 6, 2) := by decide +kernel
theorem dX9_shift_24 : decode cX9_shift 24 = .ok (.aload_n 0, 1) := by decide +kernel
theorem dX9_shift_25 : decode cX9_shift 25 = .ok (.getfield 67, 3) := by decide +kernel
theorem dX9_shift_28 : decode cX9_shift 28 = .ok (.iload_n 3, 1) := by decide +kernel
theorem dX9_shift_29 : decode cX9_shift 29 = .ok (.aaload, 1) := by decide +kernel
theorem dX9_shift_30 : decode cX9_shift 30 = .ok (.astore 7, 2) := by decide +kernel
theorem dX9_shift_32 : decode cX9_shift 32 = .ok (.aload 6, 2) := by decide +kernel
theorem dX9_shift_34 : decode cX9_shift 34 = .ok (.getfield 238, 3) := by decide +kernel
theorem dX9_shift_37 : decode cX9_shift 37 = .ok (.iconst (-1), 1) := by decide +kernel
theorem dX9_shift_38 : decode cX9_shift 38 = .ok (.if_icmp .eq 12, 3) := by decide +kernel
theorem dX9_shift_41 : decode cX9_shift 41 = .ok (.aload 7, 2) := by decide +kernel
theorem dX9_shift_43 : decode cX9_shift 43 = .ok (.getfield 238, 3) := by decide +kernel
theorem dX9_shift_46 : decode cX9_shift 46 = .ok (.iconst (-1), 1) := by decide +kernel
theorem dX9_shift_47 : decode cX9_shift 47 = .ok (.if_icmp .ne 6, 3) := by decide +kernel
theorem dX9_shift_50 : decode cX9_shift 50 = .ok (.bipush (-11), 2) := by decide +kernel
theorem dX9_shift_52 : decode cX9_shift 52 = .ok (.ireturn, 1) := by decide +kernel
theorem dX9_shift_53 : decode cX9_shift 53 = .ok (.aload 6, 2) := by decide +kernel
theorem dX9_shift_55 : decode cX9_shift 55 = .ok (.getfield 238, 3) := by decide +kernel
theorem dX9_shift_58 : decode cX9_shift 58 = .ok (.aload 7, 2) := by decide +kernel
theorem dX9_shift_60 : decode cX9_shift 60 = .ok (.getfield 238, 3) := by decide +kernel
theorem dX9_shift_63 : decode cX9_shift 63 = .ok (.if_icmp .eq 6, 3) := by decide +kernel
theorem dX9_shift_66 : decode cX9_shift 66 = .ok (.bipush (-12), 2) := by decide +kernel
theorem dX9_shift_68 : decode cX9_shift 68 = .ok (.ireturn, 1) := by decide +kernel
theorem dX9_shift_69 : decode cX9_shift 69 = .ok (.aload 6, 2) := by decide +kernel
theorem dX9_shift_71 : decode cX9_shift 71 = .ok (.iload_n 2, 1) := by decide +kernel
theorem dX9_shift_72 : decode cX9_shift 72 = .ok (.iload 5, 2) := by decide +kernel
theorem dX9_shift_74 : decode cX9_shift 74 = .ok (.invokevirtual 278, 3) := by decide +kernel
theorem dX9_shift_77 : decode cX9_shift 77 = .ok (.ifCond .eq 15, 3) := by decide +kernel
theorem dX9_shift_80 : decode cX9_shift 80 = .ok (.aload 7, 2) := by decide +kernel
theorem dX9_shift_82 : decode cX9_shift 82 = .ok (.iload 4, 2) := by decide +kernel
theorem dX9_shift_84 : decode cX9_shift 84 = .ok (.iload 5, 2) := by decide +kernel
theorem dX9_shift_86 : decode cX9_shift 86 = .ok (.invokevirtual 278, 3) := by decide +kernel
theorem dX9_shift_89 : decode cX9_shift 89 = .ok (.ifCond .ne 6, 3) := by decide +kernel
theorem dX9_shift_92 : decode cX9_shift 92 = .ok (.bipush (-13), 2) := by decide +kernel
theorem dX9_shift_94 : decode cX9_shift 94 = .ok (.ireturn, 1) := by decide +kernel
theorem dX9_shift_95 : decode cX9_shift 95 = .ok (.aload 6, 2) := by decide +kernel
theorem dX9_shift_97 : decode cX9_shift 97 = .ok (.getfield 244, 3) := by decide +kernel
theorem dX9_shift_100 : decode cX9_shift 100 = .ok (.iload_n 2, 1) := by decide +kernel
theorem dX9_shift_101 : decode cX9_shift 101 = .ok (.aload 7, 2) := by decide +kernel
theorem dX9_shift_103 : decode cX9_shift 103 = .ok (.getfield 244, 3) := by decide +kernel
theorem dX9_shift_106 : decode cX9_shift 106 = .ok (.iload 4, 2) := by decide +kernel
theorem dX9_shift_108 : decode cX9_shift 108 = .ok (.iload 5, 2) := by decide +kernel
theorem dX9_shift_110 : decode cX9_shift 110 = .ok (.invokestatic 281, 3) := by decide +kernel
theorem dX9_shift_113 : decode cX9_shift 113 = .ok (.iload 5, 2) := by decide +kernel
theorem dX9_shift_115 : decode cX9_shift 115 = .ok (.ireturn, 1) := by decide +kernel
theorem dX9_isClock_0 : decode cX9_isClock 0 = .ok (.iload_n 1, 1) := by decide +kernel
theorem dX9_isClock_1 : decode cX9_isClock 1 = .ok (.ifCond .lt 18, 3) := by decide +kernel
theorem dX9_isClock_4 : decode cX9_isClock 4 = .ok (.iload_n 1, 1) := by decide +kernel
theorem dX9_isClock_5 : decode cX9_isClock 5 = .ok (.aload_n 0, 1) := by decide +kernel
theorem dX9_isClock_6 : decode cX9_isClock 6 = .ok (.getfield 12, 3) := by decide +kernel
theorem dX9_isClock_9 : decode cX9_isClock 9 = .ok (.getfield 86, 3) := by decide +kernel
theorem dX9_isClock_12 : decode cX9_isClock 12 = .ok (.if_icmp .ge 7, 3) := by decide +kernel
theorem dX9_isClock_15 : decode cX9_isClock 15 = .ok (.iconst 1, 1) := by decide +kernel
theorem dX9_isClock_16 : decode cX9_isClock 16 = .ok (.goto 4, 3) := by decide +kernel
theorem dX9_isClock_19 : decode cX9_isClock 19 = .ok (.iconst 0, 1) := by decide +kernel
theorem dX9_isClock_20 : decode cX9_isClock 20 = .ok (.ireturn, 1) := by decide +kernel
theorem dX9_isTape_0 : decode cX9_isTape 0 = .ok (.iload_n 0, 1) := by decide +kernel
theorem dX9_isTape_1 : decode cX9_isTape 1 = .ok (.ifCond .lt 13, 3) := by decide +kernel
theorem dX9_isTape_4 : decode cX9_isTape 4 = .ok (.iload_n 0, 1) := by decide +kernel
theorem dX9_isTape_5 : decode cX9_isTape 5 = .ok (.bipush 6, 2) := by decide +kernel
theorem dX9_isTape_7 : decode cX9_isTape 7 = .ok (.if_icmp .ge 7, 3) := by decide +kernel
theorem dX9_isTape_10 : decode cX9_isTape 10 = .ok (.iconst 1, 1) := by decide +kernel
theorem dX9_isTape_11 : decode cX9_isTape 11 = .ok (.goto 4, 3) := by decide +kernel
theorem dX9_isTape_14 : decode cX9_isTape 14 = .ok (.iconst 0, 1) := by decide +kernel
theorem dX9_isTape_15 : decode cX9_isTape 15 = .ok (.ireturn, 1) := by decide +kernel
theorem dX9_within_0 : decode cX9_within 0 = .ok (.iload_n 0, 1) := by decide +kernel
theorem dX9_within_1 : decode cX9_within 1 = .ok (.iload_n 1, 1) := by decide +kernel
theorem dX9_within_2 : decode cX9_within 2 = .ok (.if_icmp .lt 12, 3) := by decide +kernel
theorem dX9_within_5 : decode cX9_within 5 = .ok (.iload_n 0, 1) := by decide +kernel
theorem dX9_within_6 : decode cX9_within 6 = .ok (.iload_n 2, 1) := by decide +kernel
theorem dX9_within_7 : decode cX9_within 7 = .ok (.if_icmp .gt 7, 3) := by decide +kernel
theorem dX9_within_10 : decode cX9_within 10 = .ok (.iconst 1, 1) := by decide +kernel
theorem dX9_within_11 : decode cX9_within 11 = .ok (.goto 4, 3) := by decide +kernel
theorem dX9_within_14 : decode cX9_within 14 = .ok (.iconst 0, 1) := by decide +kernel
theorem dX9_within_15 : decode cX9_within 15 = .ok (.ireturn, 1) := by decide +kernel
theorem dX9_isUnder_0 : decode cX9_isUnder 0 = .ok (.iload_n 0, 1) := by decide +kernel
theorem dX9_isUnder_1 : decode cX9_isUnder 1 = .ok (.istore_n 2, 1) := by decide +kernel
theorem dX9_isUnder_2 : decode cX9_isUnder 2 = .ok (.iconst 0, 1) := by decide +kernel
theorem dX9_isUnder_3 : decode cX9_isUnder 3 = .ok (.istore_n 3, 1) := by decide +kernel
theorem dX9_isUnder_4 : decode cX9_isUnder 4 = .ok (.iload_n 3, 1) := by decide +kernel
theorem dX9_isUnder_5 : decode cX9_isUnder 5 = .ok (.bipush 7, 2) := by decide +kernel
theorem dX9_isUnder_7 : decode cX9_isUnder 7 = .ok (.if_icmp .ge 26, 3) := by decide +kernel
theorem dX9_isUnder_10 : decode cX9_isUnder 10 = .ok (.iload_n 2, 1) := by decide +kernel
theorem dX9_isUnder_11 : decode cX9_isUnder 11 = .ok (.ifCond .lt 22, 3) := by decide +kernel
theorem dX9_isUnder_14 : decode cX9_isUnder 14 = .ok (.iload_n 2, 1) := by decide +kernel
theorem dX9_isUnder_15 : decode cX9_isUnder 15 = .ok (.iload_n 1, 1) := by decide +kernel
theorem dX9_isUnder_16 : decode cX9_isUnder 16 = .ok (.if_icmp .ne 5, 3) := by decide +kernel
theorem dX9_isUnder_19 : decode cX9_isUnder 19 = .ok (.iconst 1, 1) := by decide +kernel
theorem dX9_isUnder_20 : decode cX9_isUnder 20 = .ok (.ireturn, 1) := by decide +kernel
theorem dX9_isUnder_21 : decode cX9_isUnder 21 = .ok (.getstatic 287, 3) := by decide +kernel
theorem dX9_isUnder_24 : decode cX9_isUnder 24 = .ok (.iload_n 2, 1) := by decide +kernel
theorem dX9_isUnder_25 : decode cX9_isUnder 25 = .ok (.iaload, 1) := by decide +kernel
theorem dX9_isUnder_26 : decode cX9_isUnder 26 = .ok (.istore_n 2, 1) := by decide +kernel
theorem dX9_isUnder_27 : decode cX9_isUnder 27 = .ok (.iinc 3 1, 3) := by decide +kernel
theorem dX9_isUnder_30 : decode cX9_isUnder 30 = .ok (.goto (-26), 3) := by decide +kernel
theorem dX9_isUnder_33 : decode cX9_isUnder 33 = .ok (.iconst 0, 1) := by decide +kernel
theorem dX9_isUnder_34 : decode cX9_isUnder 34 = .ok (.ireturn, 1) := by decide +kernel
theorem dX9_lowest_0 : decode cX9_lowest 0 = .ok (.iload_n 0, 1) := by decide +kernel
theorem dX9_lowest_1 : decode cX9_lowest 1 = .ok (.iload_n 1, 1) := by decide +kernel
theorem dX9_lowest_2 : decode cX9_lowest 2 = .ok (.invokestatic 290, 3) := by decide +kernel
theorem dX9_lowest_5 : decode cX9_lowest 5 = .ok (.istore_n 3, 1) := by decide +kernel
theorem dX9_lowest_6 : decode cX9_lowest 6 = .ok (.iload_n 1, 1) := by decide +kernel
theorem dX9_lowest_7 : decode cX9_lowest 7 = .ok (.ifCond .eq 7, 3) := by decide +kernel
theorem dX9_lowest_10 : decode cX9_lowest 10 = .ok (.iload_n 3, 1) := by decide +kernel
theorem dX9_lowest_11 : decode cX9_lowest 11 = .ok (.ifCond .ne 7, 3) := by decide +kernel
theorem dX9_lowest_14 : decode cX9_lowest 14 = .ok (.ldc2_w 211, 3) := by decide +kernel
theorem dX9_lowest_17 : decode cX9_lowest 17 = .ok (.lreturn, 1) := by decide +kernel
theorem dX9_lowest_18 : decode cX9_lowest 18 = .ok (.iload_n 2, 1) := by decide +kernel
theorem dX9_lowest_19 : decode cX9_lowest 19 = .ok (.lookupswitch 35 #[(0, 25), (1, 30)], 25) := by decide +kernel
theorem dX9_lowest_44 : decode cX9_lowest 44 = .ok (.iload_n 0, 1) := by decide +kernel
theorem dX9_lowest_45 : decode cX9_lowest 45 = .ok (.iload_n 3, 1) := by decide +kernel
theorem dX9_lowest_46 : decode cX9_lowest 46 = .ok (.idiv, 1) := by decide +kernel
theorem dX9_lowest_47 : decode cX9_lowest 47 = .ok (.i2l, 1) := by decide +kernel
theorem dX9_lowest_48 : decode cX9_lowest 48 = .ok (.lreturn, 1) := by decide +kernel
theorem dX9_lowest_49 : decode cX9_lowest 49 = .ok (.iload_n 1, 1) := by decide +kernel
theorem dX9_lowest_50 : decode cX9_lowest 50 = .ok (.iload_n 3, 1) := by decide +kernel
theorem dX9_lowest_51 : decode cX9_lowest 51 = .ok (.idiv, 1) := by decide +kernel
theorem dX9_lowest_52 : decode cX9_lowest 52 = .ok (.i2l, 1) := by decide +kernel
theorem dX9_lowest_53 : decode cX9_lowest 53 = .ok (.lreturn, 1) := by decide +kernel
theorem dX9_lowest_54 : decode cX9_lowest 54 = .ok (.ldc2_w 211, 3) := by decide +kernel
theorem dX9_lowest_57 : decode cX9_lowest 57 = .ok (.lreturn, 1) := by decide +kernel
theorem dX9_commonDivisor_0 : decode cX9_commonDivisor 0 = .ok (.iload_n 0, 1) := by decide +kernel
theorem dX9_commonDivisor_1 : decode cX9_commonDivisor 1 = .ok (.istore_n 2, 1) := by decide +kernel
theorem dX9_commonDivisor_2 : decode cX9_commonDivisor 2 = .ok (.iload_n 1, 1) := by decide +kernel
theorem dX9_commonDivisor_3 : decode cX9_commonDivisor 3 = .ok (.istore_n 3, 1) := by decide +kernel
theorem dX9_commonDivisor_4 : decode cX9_commonDivisor 4 = .ok (.iconst 0, 1) := by decide +kernel
theorem dX9_commonDivisor_5 : decode cX9_commonDivisor 5 = .ok (.istore 4, 2) := by decide +kernel
theorem dX9_commonDivisor_7 : decode cX9_commonDivisor 7 = .ok (.iload 4, 2) := by decide +kernel
theorem dX9_commonDivisor_9 : decode cX9_commonDivisor 9 = .ok (.sipush 1000, 3) := by decide +kernel
theorem dX9_commonDivisor_12 : decode cX9_commonDivisor 12 = .ok (.if_icmp .ge 23, 3) := by decide +kernel
theorem dX9_commonDivisor_15 : decode cX9_commonDivisor 15 = .ok (.iload_n 3, 1) := by decide +kernel
theorem dX9_commonDivisor_16 : decode cX9_commonDivisor 16 = .ok (.ifCond .eq 19, 3) := by decide +kernel
theorem dX9_commonDivisor_19 : decode cX9_commonDivisor 19 = .ok (.iload_n 2, 1) := by decide +kernel
theorem dX9_commonDivisor_20 : decode cX9_commonDivisor 20 = .ok (.iload_n 3, 1) := by decide +kernel
theorem dX9_commonDivisor_21 : decode cX9_commonDivisor 21 = .ok (.irem, 1) := by decide +kernel
theorem dX9_commonDivisor_22 : decode cX9_commonDivisor 22 = .ok (.istore 5, 2) := by decide +kernel
theorem dX9_commonDivisor_24 : decode cX9_commonDivisor 24 = .ok (.iload_n 3, 1) := by decide +kernel
theorem dX9_commonDivisor_25 : decode cX9_commonDivisor 25 = .ok (.istore_n 2, 1) := by decide +kernel
theorem dX9_commonDivisor_26 : decode cX9_commonDivisor 26 = .ok (.iload 5, 2) := by decide +kernel
theorem dX9_commonDivisor_28 : decode cX9_commonDivisor 28 = .ok (.istore_n 3, 1) := by decide +kernel
theorem dX9_commonDivisor_29 : decode cX9_commonDivisor 29 = .ok (.iinc 4 1, 3) := by decide +kernel
theorem dX9_commonDivisor_32 : decode cX9_commonDivisor 32 = .ok (.goto (-25), 3) := by decide +kernel
theorem dX9_commonDivisor_35 : decode cX9_commonDivisor 35 = .ok (.iload_n 2, 1) := by decide +kernel
theorem dX9_commonDivisor_36 : decode cX9_commonDivisor 36 = .ok (.ireturn, 1) := by decide +kernel
theorem dX10_init_0 : decode cX10_init 0 = .ok (.aload_n 0, 1) := by decide +kernel
theorem dX10_init_1 : decode cX10_init 1 = .ok (.invokespecial 1, 3) := by decide +kernel
theorem dX10_init_4 : decode cX10_init 4 = .ok (.aload_n 0, 1) := by decide +kernel
theorem dX10_init_5 : decode cX10_init 5 = .ok (.iconst 0, 1) := by decide +kernel
theorem dX10_init_6 : decode cX10_init 6 = .ok (.putfield 7, 3) := by decide +kernel
theorem dX10_init_9 : decode cX10_init 9 = .ok (.aload_n 0, 1) := by decide +kernel
theorem dX10_init_10 : decode cX10_init 10 = .ok (.iconst 0, 1) := by decide +kernel
theorem dX10_init_11 : decode cX10_init 11 = .ok (.putfield 13, 3) := by decide +kernel
theorem dX10_init_14 : decode cX10_init 14 = .ok (.aload_n 0, 1) := by decide +kernel
theorem dX10_init_15 : decode cX10_init 15 = .ok (.bipush 100, 2) := by decide +kernel
theorem dX10_init_17 : decode cX10_init 17 = .ok (.putfield 16, 3) := by decide +kernel
theorem dX10_init_20 : decode cX10_init 20 = .ok (.aload_n 0, 1) := by decide +kernel
theorem dX10_init_21 : decode cX10_init 21 = .ok (.bipush 6, 2) := by decide +kernel
theorem dX10_init_23 : decode cX10_init 23 = .ok (.newarray .int, 2) := by decide +kernel
theorem dX10_init_25 : decode cX10_init 25 = .ok (.putfield 19, 3) := by decide +kernel
theorem dX10_init_28 : decode cX10_init 28 = .ok (.aload_n 0, 1) := by decide +kernel
theorem dX10_init_29 : decode cX10_init 29 = .ok (.bipush 6, 2) := by decide +kernel
theorem dX10_init_31 : decode cX10_init 31 = .ok (.newarray .int, 2) := by decide +kernel
theorem dX10_init_33 : decode cX10_init 33 = .ok (.putfield 23, 3) := by decide +kernel
theorem dX10_init_36 : decode cX10_init 36 = .ok (.aload_n 0, 1) := by decide +kernel
theorem dX10_init_37 : decode cX10_init 37 = .ok (.bipush 6, 2) := by decide +kernel
theorem dX10_init_39 : decode cX10_init 39 = .ok (.newarray .int, 2) := by decide +kernel
theorem dX10_init_41 : decode cX10_init 41 = .ok (.putfield 26, 3) := by decide +kernel
theorem dX10_init_44 : decode cX10_init 44 = .ok (.aload_n 0, 1) := by decide +kernel
theorem dX10_init_45 : decode cX10_init 45 = .ok (.bipush 24, 2) := by decide +kernel
theorem dX10_init_47 : decode cX10_init 47 = .ok (.newarray .int, 2) := by decide +kernel
theorem dX10_init_49 : decode cX10_init 49 = .ok (.putfield 29, 3) := by decide +kernel
theorem dX10_init_52 : decode cX10_init 52 = .ok (.aload_n 0, 1) := by decide +kernel
theorem dX10_init_53 : decode cX10_init 53 = .ok (.iconst 0, 1) := by decide +kernel
theorem dX10_init_54 : decode cX10_init 54 = .ok (.putfield 32, 3) := by decide +kernel
theorem dX10_init_57 : decode cX10_init 57 = .ok (.aload_n 0, 1) := by decide +kernel
theorem dX10_init_58 : decode cX10_init 58 = .ok (.iconst (-1), 1) := by decide +kernel
theorem dX10_init_59 : decode cX10_init 59 = .ok (.putfield 35, 3) := by decide +kernel
theorem dX10_init_62 : decode cX10_init 62 = .ok (.aload_n 0, 1) := by decide +kernel
theorem dX10_init_63 : decode cX10_init 63 = .ok (.iconst 0, 1) := by decide +kernel
theorem dX10_init_64 : decode cX10_init 64 = .ok (.putfield 38, 3) := by decide +kernel
theorem dX10_init_67 : decode cX10_init 67 = .ok (.aload_n 0, 1) := by decide +kernel
theorem dX10_init_68 : decode cX10_init 68 = .ok (.iconst 0, 1) := by decide +kernel
theorem dX10_init_69 : decode cX10_init 69 = .ok (.putfield 41, 3) := by decide +kernel
theorem dX10_init_72 : decode cX10_init 72 = .ok (.aload_n 0, 1) := by decide +kernel
theorem dX10_init_73 : decode cX10_init 73 = .ok (.iconst 0, 1) := by decide +kernel
theorem dX10_init_74 : decode cX10_init 74 = .ok (.putfield 44, 3) := by decide +kernel
theorem dX10_init_77 : decode cX10_init 77 = .ok (.aload_n 0, 1) := by decide +kernel
theorem dX10_init_78 : decode cX10_init 78 = .ok (.bipush 100, 2) := by decide +kernel
theorem dX10_init_80 : decode cX10_init 80 = .ok (.newarray .int, 2) := by decide +kernel
theorem dX10_init_82 : decode cX10_init 82 = .ok (.putfield 47, 3) := by decide +kernel
theorem dX10_init_85 : decode cX10_init 85 = .ok (.aload_n 0, 1) := by decide +kernel
theorem dX10_init_86 : decode cX10_init 86 = .ok (.bipush 6, 2) := by decide +kernel
theorem dX10_init_88 : decode cX10_init 88 = .ok (.newarray .int, 2) := by decide +kernel
theorem dX10_init_90 : decode cX10_init 90 = .ok (.putfield 50, 3) := by decide +kernel
theorem dX10_init_93 : decode cX10_init 93 = .ok (.aload_n 0, 1) := by decide +kernel
theorem dX10_init_94 : decode cX10_init 94 = .ok (.bipush 60, 2) := by decide +kernel
theorem dX10_init_96 : decode cX10_init 96 = .ok (.newarray .int, 2) := by decide +kernel
theorem dX10_init_98 : decode cX10_init 98 = .ok (.putfield 53, 3) := by decide +kernel
theorem dX10_init_101 : decode cX10_init 101 = .ok (.aload_n 0, 1) := by decide +kernel
theorem dX10_init_102 : decode cX10_init 102 = .ok (.bipush 60, 2) := by decide +kernel
theorem dX10_init_104 : decode cX10_init 104 = .ok (.newarray .int, 2) := by decide +kernel
theorem dX10_init_106 : decode cX10_init 106 = .ok (.putfield 56, 3) := by decide +kernel
theorem dX10_init_109 : decode cX10_init 109 = .ok (.aload_n 0, 1) := by decide +kernel
theorem dX10_init_110 : decode cX10_init 110 = .ok (.bipush 60, 2) := by decide +kernel
theorem dX10_init_112 : decode cX10_init 112 = .ok (.newarray .int, 2) := by decide +kernel
theorem dX10_init_114 : decode cX10_init 114 = .ok (.putfield 59, 3) := by decide +kernel
theorem dX10_init_117 : decode cX10_init 117 = .ok (.aload_n 0, 1) := by decide +kernel
theorem dX10_init_118 : decode cX10_init 118 = .ok (.bipush 60, 2) := by decide +kernel
theorem dX10_init_120 : decode cX10_init 120 = .ok (.newarray .int, 2) := by decide +kernel
theorem dX10_init_122 : decode cX10_init 122 = .ok (.putfield 62, 3) := by decide +kernel
theorem dX10_init_125 : decode cX10_init 125 = .ok (.aload_n 0, 1) := by decide +kernel
theorem dX10_init_126 : decode cX10_init 126 = .ok (.sipush 600, 3) := by decide +kernel
theorem dX10_init_129 : decode cX10_init 129 = .ok (.newarray .int, 2) := by decide +kernel
theorem dX10_init_131 : decode cX10_init 131 = .ok (.putfield 65, 3) := by decide +kernel
theorem dX10_init_134 : decode cX10_init 134 = .ok (.aload_n 0, 1) := by decide +kernel
theorem dX10_init_135 : decode cX10_init 135 = .ok (.bipush 101, 2) := by decide +kernel
theorem dX10_init_137 : decode cX10_init 137 = .ok (.newarray .int, 2) := by decide +kernel
theorem dX10_init_139 : decode cX10_init 139 = .ok (.putfield 68, 3) := by decide +kernel
theorem dX10_init_142 : decode cX10_init 142 = .ok (.aload_n 0, 1) := by decide +kernel
theorem dX10_init_143 : decode cX10_init 143 = .ok (.iconst 0, 1) := by decide +kernel
theorem dX10_init_144 : decode cX10_init 144 = .ok (.putfield 71, 3) := by decide +kernel
theorem dX10_init_147 : decode cX10_init 147 = .ok (.aload_n 0, 1) := by decide +kernel
theorem dX10_init_148 : decode cX10_init 148 = .ok (.iconst 0, 1) := by decide +kernel
theorem dX10_init_149 : decode cX10_init 149 = .ok (.putfield 74, 3) := by decide +kernel
theorem dX10_init_152 : decode cX10_init 152 = .ok (.aload_n 0, 1) := by decide +kernel
theorem dX10_init_153 : decode cX10_init 153 = .ok (.iconst 0, 1) := by decide +kernel
theorem dX10_init_154 : decode cX10_init 154 = .ok (.putfield 77, 3) := by decide +kernel
theorem dX10_init_157 : decode cX10_init 157 = .ok (.aload_n 0, 1) := by decide +kernel
theorem dX10_init_158 : decode cX10_init 158 = .ok (.bipush 12, 2) := by decide +kernel
theorem dX10_init_160 : decode cX10_init 160 = .ok (.newarray .int, 2) := by decide +kernel
theorem dX10_init_162 : decode cX10_init 162 = .ok (.dup, 1) := by decide +kernel
theorem dX10_init_163 : decode cX10_init 163 = .ok (.iconst 0, 1) := by decide +kernel
theorem dX10_init_164 : decode cX10_init 164 = .ok (.bipush 110, 2) := by decide +kernel
theorem dX10_init_166 : decode cX10_init 166 = .ok (.iastore, 1) := by decide +kernel
theorem dX10_init_167 : decode cX10_init 167 = .ok (.dup, 1) := by decide +kernel
theorem dX10_init_168 : decode cX10_init 168 = .ok (.iconst 1, 1) := by decide +kernel
theorem dX10_init_169 : decode cX10_init 169 = .ok (.bipush 101, 2) := by decide +kernel
theorem dX10_init_171 : decode cX10_init 171 = .ok (.iastore, 1) := by decide +kernel
theorem dX10_init_172 : decode cX10_init 172 = .ok (.dup, 1) := by decide +kernel
theorem dX10_init_173 : decode cX10_init 173 = .ok (.iconst 2, 1) := by decide +kernel
theorem dX10_init_174 : decode cX10_init 174 = .ok (.bipush 119, 2) := by decide +kernel
theorem dX10_init_176 : decode cX10_init 176 = .ok (.iastore, 1) := by decide +kernel
theorem dX10_init_177 : decode cX10_init 177 = .ok (.dup, 1) := by decide +kernel
theorem dX10_init_178 : decode cX10_init 178 = .ok (.iconst 3, 1) := by decide +kernel
theorem dX10_init_179 : decode cX10_init 179 = .ok (.bipush 115, 2) := by decide +kernel
theorem dX10_init_181 : decode cX10_init 181 = .ok (.iastore, 1) := by decide +kernel
theorem dX10_init_182 : decode cX10_init 182 = .ok (.dup, 1) := by decide +kernel
theorem dX10_init_183 : decode cX10_init 183 = .ok (.iconst 4, 1) := by decide +kernel
theorem dX10_init_184 : decode cX10_init 184 = .ok (.bipush 104, 2) := by decide +kernel
theorem dX10_init_186 : decode cX10_init 186 = .ok (.iastore, 1) := by decide +kernel
theorem dX10_init_187 : decode cX10_init 187 = .ok (.dup, 1) := by decide +kernel
theorem dX10_init_188 : decode cX10_init 188 = .ok (.iconst 5, 1) := by decide +kernel
theorem dX10_init_189 : decode cX10_init 189 = .ok (.bipush 117, 2) := by decide +kernel
theorem dX10_init_191 : decode cX10_init 191 = .ok (.iastore, 1) := by decide +kernel
theorem dX10_init_192 : decode cX10_init 192 = .ok (.dup, 1) := by decide +kernel
theorem dX10_init_193 : decode cX10_init 193 = .ok (.bipush 6, 2) := by decide +kernel
theorem dX10_init_195 : decode cX10_init 195 = .ok (.bipush 115, 2) := by decide +kernel
theorem dX10_init_197 : decode cX10_init 197 = .ok (.iastore, 1) := by decide +kernel
theorem dX10_init_198 : decode cX10_init 198 = .ok (.dup, 1) := by decide +kernel
theorem dX10_init_199 : decode cX10_init 199 = .ok (.bipush 7, 2) := by decide +kernel
theorem dX10_init_201 : decode cX10_init 201 = .ok (.bipush 104, 2) := by decide +kernel
theorem dX10_init_203 : decode cX10_init 203 = .ok (.iastore, 1) := by decide +kernel
theorem dX10_init_204 : decode cX10_init 204 = .ok (.dup, 1) := by decide +kernel
theorem dX10_init_205 : decode cX10_init 205 = .ok (.bipush 8, 2) := by decide +kernel
theorem dX10_init_207 : decode cX10_init 207 = .ok (.bipush 112, 2) := by decide +kernel
theorem dX10_init_209 : decode cX10_init 209 = .ok (.iastore, 1) := by decide +kernel
theorem dX10_init_210 : decode cX10_init 210 = .ok (.dup, 1) := by decide +kernel
theorem dX10_init_211 : decode cX10_init 211 = .ok (.bipush 9, 2) := by decide +kernel
theorem dX10_init_213 : decode cX10_init 213 = .ok (.bipush 97, 2) := by decide +kernel
theorem dX10_init_215 : decode cX10_init 215 = .ok (.iastore, 1) := by decide +kernel
theorem dX10_init_216 : decode cX10_init 216 = .ok (.dup, 1) := by decide +kernel
theorem dX10_init_217 : decode cX10_init 217 = .ok (.bipush 10, 2) := by decide +kernel
theorem dX10_init_219 : decode cX10_init 219 = .ok (.bipush 99, 2) := by decide +kernel
theorem dX10_init_221 : decode cX10_init 221 = .ok (.iastore, 1) := by decide +kernel
theorem dX10_init_222 : decode cX10_init 222 = .ok (.dup, 1) := by decide +kernel
theorem dX10_init_223 : decode cX10_init 223 = .ok (.bipush 11, 2) := by decide +kernel
theorem dX10_init_225 : decode cX10_init 225 = .ok (.bipush 101, 2) := by decide +kernel
theorem dX10_init_227 : decode cX10_init 227 = .ok (.iastore, 1) := by decide +kernel
theorem dX10_init_228 : decode cX10_init 228 = .ok (.putfield 80, 3) := by decide +kernel
theorem dX10_init_231 : decode cX10_init 231 = .ok (.aload_n 0, 1) := by decide +kernel
theorem dX10_init_232 : decode cX10_init 232 = .ok (.bipush 100, 2) := by decide +kernel
theorem dX10_init_234 : decode cX10_init 234 = .ok (.newarray .boolean, 2) := by decide +kernel
theorem dX10_init_236 : decode cX10_init 236 = .ok (.putfield 83, 3) := by decide +kernel
theorem dX10_init_239 : decode cX10_init 239 = .ok (.aload_n 0, 1) := by decide +kernel
theorem dX10_init_240 : decode cX10_init 240 = .ok (.iconst 0, 1) := by decide +kernel
theorem dX10_init_241 : decode cX10_init 241 = .ok (.putfield 87, 3) := by decide +kernel
theorem dX10_init_244 : decode cX10_init 244 = .ok (.aload_n 0, 1) := by decide +kernel
theorem dX10_init_245 : decode cX10_init 245 = .ok (.sipush 4800, 3) := by decide +kernel
theorem dX10_init_248 : decode cX10_init 248 = .ok (.newarray .int, 2) := by decide +kernel
theorem dX10_init_250 : decode cX10_init 250 = .ok (.putfield 91, 3) := by decide +kernel
theorem dX10_init_253 : decode cX10_init 253 = .ok (.aload_n 0, 1) := by decide +kernel
theorem dX10_init_254 : decode cX10_init 254 = .ok (.bipush 6, 2) := by decide +kernel
theorem dX10_init_256 : decode cX10_init 256 = .ok (.newarray .int, 2) := by decide +kernel
theorem dX10_init_258 : decode cX10_init 258 = .ok (.putfield 94, 3) := by decide +kernel
theorem dX10_init_261 : decode cX10_init 261 = .ok (.aload_n 0, 1) := by decide +kernel
theorem dX10_init_262 : decode cX10_init 262 = .ok (.iconst 0, 1) := by decide +kernel
theorem dX10_init_263 : decode cX10_init 263 = .ok (.putfield 97, 3) := by decide +kernel
theorem dX10_init_266 : decode cX10_init 266 = .ok (.aload_n 0, 1) := by decide +kernel
theorem dX10_init_267 : decode cX10_init 267 = .ok (.iconst 0, 1) := by decide +kernel
theorem dX10_init_268 : decode cX10_init 268 = .ok (.putfield 100, 3) := by decide +kernel
theorem dX10_init_271 : decode cX10_init 271 = .ok (.aload_n 0, 1) := by decide +kernel
theorem dX10_init_272 : decode cX10_init 272 = .ok (.bipush 6, 2) := by decide +kernel
theorem dX10_init_274 : decode cX10_init 274 = .ok (.newarray .int, 2) := by decide +kernel
theorem dX10_init_276 : decode cX10_init 276 = .ok (.putfield 103, 3) := by decide +kernel
theorem dX10_init_279 : decode cX10_init 279 = .ok (.aload_n 0, 1) := by decide +kernel
theorem dX10_init_280 : decode cX10_init 280 = .ok (.bipush 6, 2) := by decide +kernel
theorem dX10_init_282 : decode cX10_init 282 = .ok (.newarray .int, 2) := by decide +kernel
theorem dX10_init_284 : decode cX10_init 284 = .ok (.putfield 106, 3) := by decide +kernel
theorem dX10_init_287 : decode cX10_init 287 = .ok (.aload_n 0, 1) := by decide +kernel
theorem dX10_init_288 : decode cX10_init 288 = .ok (.bipush 6, 2) := by decide +kernel
theorem dX10_init_290 : decode cX10_init 290 = .ok (.newarray .int, 2) := by decide +kernel
theorem dX10_init_292 : decode cX10_init 292 = .ok (.putfield 109, 3) := by decide +kernel
theorem dX10_init_295 : decode cX10_init 295 = .ok (.aload_n 0, 1) := by decide +kernel
theorem dX10_init_296 : decode cX10_init 296 = .ok (.iconst 0, 1) := by decide +kernel
theorem dX10_init_297 : decode cX10_init 297 = .ok (.putfield 112, 3) := by decide +kernel
theorem dX10_init_300 : decode cX10_init 300 = .ok (.aload_n 0, 1) := by decide +kernel
theorem dX10_init_301 : decode cX10_init 301 = .ok (.iconst 5, 1) := by decide +kernel
theorem dX10_init_302 : decode cX10_init 302 = .ok (.newarray .int, 2) := by decide +kernel
theorem dX10_init_304 : decode cX10_init 304 = .ok (.putfield 115, 3) := by decide +kernel
theorem dX10_init_307 : decode cX10_init 307 = .ok (.aload_n 0, 1) := by decide +kernel
theorem dX10_init_308 : decode cX10_init 308 = .ok (.iconst 5, 1) := by decide +kernel
theorem dX10_init_309 : decode cX10_init 309 = .ok (.newarray .int, 2) := by decide +kernel
theorem dX10_init_311 : decode cX10_init 311 = .ok (.putfield 118, 3) := by decide +kernel
theorem dX10_init_314 : decode cX10_init 314 = .ok (.aload_n 0, 1) := by decide +kernel
theorem dX10_init_315 : decode cX10_init 315 = .ok (.iconst 5, 1) := by decide +kernel
theorem dX10_init_316 : decode cX10_init 316 = .ok (.newarray .int, 2) := by decide +kernel
theorem dX10_init_318 : decode cX10_init 318 = .ok (.putfield 121, 3) := by decide +kernel
theorem dX10_init_321 : decode cX10_init 321 = .ok (.aload_n 0, 1) := by decide +kernel
theorem dX10_init_322 : decode cX10_init 322 = .ok (.iconst 0, 1) := by decide +kernel
theorem dX10_init_323 : decode cX10_init 323 = .ok (.putfield 124, 3) := by decide +kernel
theorem dX10_init_326 : decode cX10_init 326 = .ok (.aload_n 0, 1) := by decide +kernel
theorem dX10_init_327 : decode cX10_init 327 = .ok (.iconst 0, 1) := by decide +kernel
theorem dX10_init_328 : decode cX10_init 328 = .ok (.putfield 127, 3) := by decide +kernel
theorem dX10_init_331 : decode cX10_init 331 = .ok (.aload_n 0, 1) := by decide +kernel
theorem dX10_init_332 : decode cX10_init 332 = .ok (.bipush 10, 2) := by decide +kernel
theorem dX10_init_334 : decode cX10_init 334 = .ok (.newarray .int, 2) := by decide +kernel
theorem dX10_init_336 : decode cX10_init 336 = .ok (.putfield 130, 3) := by decide +kernel
theorem dX10_init_339 : decode cX10_init 339 = .ok (.aload_n 0, 1) := by decide +kernel
theorem dX10_init_340 : decode cX10_init 340 = .ok (.bipush 8, 2) := by decide +kernel
theorem dX10_init_342 : decode cX10_init 342 = .ok (.newarray .int, 2) := by decide +kernel
theorem dX10_init_344 : decode cX10_init 344 = .ok (.putfield 133, 3) := by decide +kernel
theorem dX10_init_347 : decode cX10_init 347 = .ok (.aload_n 0, 1) := by decide +kernel
theorem dX10_init_348 : decode cX10_init 348 = .ok (.bipush 8, 2) := by decide +kernel
theorem dX10_init_350 : decode cX10_init 350 = .ok (.newarray .int, 2) := by decide +kernel
theorem dX10_init_352 : decode cX10_init 352 = .ok (.putfield 136, 3) := by decide +kernel
theorem dX10_init_355 : decode cX10_init 355 = .ok (.aload_n 0, 1) := by decide +kernel
theorem dX10_init_356 : decode cX10_init 356 = .ok (.iconst 0, 1) := by decide +kernel
theorem dX10_init_357 : decode cX10_init 357 = .ok (.putfield 139, 3) := by decide +kernel
theorem dX10_init_360 : decode cX10_init 360 = .ok (.aload_n 0, 1) := by decide +kernel
theorem dX10_init_361 : decode cX10_init 361 = .ok (.iconst (-1), 1) := by decide +kernel
theorem dX10_init_362 : decode cX10_init 362 = .ok (.putfield 142, 3) := by decide +kernel
theorem dX10_init_365 : decode cX10_init 365 = .ok (.aload_n 0, 1) := by decide +kernel
theorem dX10_init_366 : decode cX10_init 366 = .ok (.iconst 0, 1) := by decide +kernel
theorem dX10_init_367 : decode cX10_init 367 = .ok (.putfield 145, 3) := by decide +kernel
theorem dX10_init_370 : decode cX10_init 370 = .ok (.aload_n 0, 1) := by decide +kernel
theorem dX10_init_371 : decode cX10_init 371 = .ok (.iconst 0, 1) := by decide +kernel
theorem dX10_init_372 : decode cX10_init 372 = .ok (.putfield 148, 3) := by decide +kernel
theorem dX10_init_375 : decode cX10_init 375 = .ok (.aload_n 0, 1) := by decide +kernel
theorem dX10_init_376 : decode cX10_init 376 = .ok (.iconst 0, 1) := by decide +kernel
theorem dX10_init_377 : decode cX10_init 377 = .ok (.putfield 151, 3) := by decide +kernel
theorem dX10_init_380 : decode cX10_init 380 = .ok (.aload_n 0, 1) := by decide +kernel
theorem dX10_init_381 : decode cX10_init 381 = .ok (.iconst 0, 1) := by decide +kernel
theorem dX10_init_382 : decode cX10_init 382 = .ok (.putfield 154, 3) := by decide +kernel
theorem dX10_init_385 : decode cX10_init 385 = .ok (.aload_n 0, 1) := by decide +kernel
theorem dX10_init_386 : decode cX10_init 386 = .ok (.iconst 0, 1) := by decide +kernel
theorem dX10_init_387 : decode cX10_init 387 = .ok (.putfield 157, 3) := by decide +kernel
theorem dX10_init_390 : decode cX10_init 390 = .ok (.aload_n 0, 1) := by decide +kernel
theorem dX10_init_391 : decode cX10_init 391 = .ok (.iconst 0, 1) := by decide +kernel
theorem dX10_init_392 : decode cX10_init 392 = .ok (.putfield 160, 3) := by decide +kernel
theorem dX10_init_395 : decode cX10_init 395 = .ok (.aload_n 0, 1) := by decide +kernel
theorem dX10_init_396 : decode cX10_init 396 = .ok (.bipush 6, 2) := by decide +kernel
theorem dX10_init_398 : decode cX10_init 398 = .ok (.newarray .int, 2) := by decide +kernel
theorem dX10_init_400 : decode cX10_init 400 = .ok (.putfield 163, 3) := by decide +kernel
theorem dX10_init_403 : decode cX10_init 403 = .ok (.aload_n 0, 1) := by decide +kernel
theorem dX10_init_404 : decode cX10_init 404 = .ok (.bipush 6, 2) := by decide +kernel
theorem dX10_init_406 : decode cX10_init 406 = .ok (.newarray .int, 2) := by decide +kernel
theorem dX10_init_408 : decode cX10_init 408 = .ok (.putfield 166, 3) := by decide +kernel
theorem dX10_init_411 : decode cX10_init 411 = .ok (.aload_n 0, 1) := by decide +kernel
theorem dX10_init_412 : decode cX10_init 412 = .ok (.bipush 6, 2) := by decide +kernel
theorem dX10_init_414 : decode cX10_init 414 = .ok (.newarray .int, 2) := by decide +kernel
theorem dX10_init_416 : decode cX10_init 416 = .ok (.putfield 169, 3) := by decide +kernel
theorem dX10_init_419 : decode cX10_init 419 = .ok (.aload_n 0, 1) := by decide +kernel
theorem dX10_init_420 : decode cX10_init 420 = .ok (.bipush 24, 2) := by decide +kernel
theorem dX10_init_422 : decode cX10_init 422 = .ok (.newarray .int, 2) := by decide +kernel
theorem dX10_init_424 : decode cX10_init 424 = .ok (.putfield 172, 3) := by decide +kernel
theorem dX10_init_427 : decode cX10_init 427 = .ok (.aload_n 0, 1) := by decide +kernel
theorem dX10_init_428 : decode cX10_init 428 = .ok (.iconst 5, 1) := by decide +kernel
theorem dX10_init_429 : decode cX10_init 429 = .ok (.newarray .int, 2) := by decide +kernel
theorem dX10_init_431 : decode cX10_init 431 = .ok (.putfield 175, 3) := by decide +kernel
theorem dX10_init_434 : decode cX10_init 434 = .ok (.aload_n 0, 1) := by decide +kernel
theorem dX10_init_435 : decode cX10_init 435 = .ok (.iconst 5, 1) := by decide +kernel
theorem dX10_init_436 : decode cX10_init 436 = .ok (.newarray .int, 2) := by decide +kernel
theorem dX10_init_438 : decode cX10_init 438 = .ok (.putfield 178, 3) := by decide +kernel
theorem dX10_init_441 : decode cX10_init 441 = .ok (.aload_n 0, 1) := by decide +kernel
theorem dX10_init_442 : decode cX10_init 442 = .ok (.iconst 5, 1) := by decide +kernel
theorem dX10_init_443 : decode cX10_init 443 = .ok (.newarray .int, 2) := by decide +kernel
theorem dX10_init_445 : decode cX10_init 445 = .ok (.putfield 181, 3) := by decide +kernel
theorem dX10_init_448 : decode cX10_init 448 = .ok (.aload_n 0, 1) := by decide +kernel
theorem dX10_init_449 : decode cX10_init 449 = .ok (.bipush 10, 2) := by decide +kernel
theorem dX10_init_451 : decode cX10_init 451 = .ok (.newarray .int, 2) := by decide +kernel
theorem dX10_init_453 : decode cX10_init 453 = .ok (.putfield 184, 3) := by decide +kernel
theorem dX10_init_456 : decode cX10_init 456 = .ok (.aload_n 0, 1) := by decide +kernel
theorem dX10_init_457 : decode cX10_init 457 = .ok (.bipush 8, 2) := by decide +kernel
theorem dX10_init_459 : decode cX10_init 459 = .ok (.newarray .int, 2) := by decide +kernel
theorem dX10_init_461 : decode cX10_init 461 = .ok (.putfield 187, 3) := by decide +kernel
theorem dX10_init_464 : decode cX10_init 464 = .ok (.aload_n 0, 1) := by decide +kernel
theorem dX10_init_465 : decode cX10_init 465 = .ok (.bipush 8, 2) := by decide +kernel
theorem dX10_init_467 : decode cX10_init 467 = .ok (.newarray .int, 2) := by decide +kernel
theorem dX10_init_469 : decode cX10_init 469 = .ok (.putfield 190, 3) := by decide +kernel
theorem dX10_init_472 : decode cX10_init 472 = .ok (.aload_n 0, 1) := by decide +kernel
theorem dX10_init_473 : decode cX10_init 473 = .ok (.iconst 0, 1) := by decide +kernel
theorem dX10_init_474 : decode cX10_init 474 = .ok (.putfield 193, 3) := by decide +kernel
theorem dX10_init_477 : decode cX10_init 477 = .ok (.aload_n 0, 1) := by decide +kernel
theorem dX10_init_478 : decode cX10_init 478 = .ok (.bipush 20, 2) := by decide +kernel
theorem dX10_init_480 : decode cX10_init 480 = .ok (.newarray .int, 2) := by decide +kernel
theorem dX10_init_482 : decode cX10_init 482 = .ok (.putfield 196, 3) := by decide +kernel
theorem dX10_init_485 : decode cX10_init 485 = .ok (.aload_n 0, 1) := by decide +kernel
theorem dX10_init_486 : decode cX10_init 486 = .ok (.bipush 6, 2) := by decide +kernel
theorem dX10_init_488 : decode cX10_init 488 = .ok (.newarray .int, 2) := by decide +kernel
theorem dX10_init_490 : decode cX10_init 490 = .ok (.dup, 1) := by decide +kernel
theorem dX10_init_491 : decode cX10_init 491 = .ok (.iconst 0, 1) := by decide +kernel
theorem dX10_init_492 : decode cX10_init 492 = .ok (.iconst (-1), 1) := by decide +kernel
theorem dX10_init_493 : decode cX10_init 493 = .ok (.iastore, 1) := by decide +kernel
theorem dX10_init_494 : decode cX10_init 494 = .ok (.dup, 1) := by decide +kernel
theorem dX10_init_495 : decode cX10_init 495 = .ok (.iconst 1, 1) := by decide +kernel
theorem dX10_init_496 : decode cX10_init 496 = .ok (.iconst (-1), 1) := by decide +kernel
theorem dX10_init_497 : decode cX10_init 497 = .ok (.iastore, 1) := by decide +kernel
theorem dX10_init_498 : decode cX10_init 498 = .ok (.dup, 1) := by decide +kernel
theorem dX10_init_499 : decode cX10_init 499 = .ok (.iconst 2, 1) := by decide +kernel
theorem dX10_init_500 : decode cX10_init 500 = .ok (.iconst (-1), 1) := by decide +kernel
theorem dX10_init_501 : decode cX10_init 501 = .ok (.iastore, 1) := by decide +kernel
theorem dX10_init_502 : decode cX10_init 502 = .ok (.dup, 1) := by decide +kernel
theorem dX10_init_503 : decode cX10_init 503 = .ok (.iconst 3, 1) := by decide +kernel
theorem dX10_init_504 : decode cX10_init 504 = .ok (.iconst (-1), 1) := by decide +kernel
theorem dX10_init_505 : decode cX10_init 505 = .ok (.iastore, 1) := by decide +kernel
theorem dX10_init_506 : decode cX10_init 506 = .ok (.dup, 1) := by decide +kernel
theorem dX10_init_507 : decode cX10_init 507 = .ok (.iconst 4, 1) := by decide +kernel
theorem dX10_init_508 : decode cX10_init 508 = .ok (.iconst (-1), 1) := by decide +kernel
theorem dX10_init_509 : decode cX10_init 509 = .ok (.iastore, 1) := by decide +kernel
theorem dX10_init_510 : decode cX10_init 510 = .ok (.dup, 1) := by decide +kernel
theorem dX10_init_511 : decode cX10_init 511 = .ok (.iconst 5, 1) := by decide +kernel
theorem dX10_init_512 : decode cX10_init 512 = .ok (.iconst (-1), 1) := by decide +kernel
theorem dX10_init_513 : decode cX10_init 513 = .ok (.iastore, 1) := by decide +kernel
theorem dX10_init_514 : decode cX10_init 514 = .ok (.putfield 199, 3) := by decide +kernel
theorem dX10_init_517 : decode cX10_init 517 = .ok (.aload_n 0, 1) := by decide +kernel
theorem dX10_init_518 : decode cX10_init 518 = .ok (.bipush 6, 2) := by decide +kernel
theorem dX10_init_520 : decode cX10_init 520 = .ok (.newarray .int, 2) := by decide +kernel
theorem dX10_init_522 : decode cX10_init 522 = .ok (.putfield 202, 3) := by decide +kernel
theorem dX10_init_525 : decode cX10_init 525 = .ok (.aload_n 0, 1) := by decide +kernel
theorem dX10_init_526 : decode cX10_init 526 = .ok (.sipush 360, 3) := by decide +kernel
theorem dX10_init_529 : decode cX10_init 529 = .ok (.newarray .long, 2) := by decide +kernel
theorem dX10_init_531 : decode cX10_init 531 = .ok (.putfield 205, 3) := by decide +kernel
theorem dX10_init_534 : decode cX10_init 534 = .ok (.aload_n 0, 1) := by decide +kernel
theorem dX10_init_535 : decode cX10_init 535 = .ok (.bipush 60, 2) := by decide +kernel
theorem dX10_init_537 : decode cX10_init 537 = .ok (.newarray .long, 2) := by decide +kernel
theorem dX10_init_539 : decode cX10_init 539 = .ok (.putfield 209, 3) := by decide +kernel
theorem dX10_init_542 : decode cX10_init 542 = .ok (.return_, 1) := by decide +kernel
theorem dX10_in_0 : decode cX10_in 0 = .ok (.iload_n 1, 1) := by decide +kernel
theorem dX10_in_1 : decode cX10_in 1 = .ok (.iload_n 2, 1) := by decide +kernel
theorem dX10_in_2 : decode cX10_in 2 = .ok (.if_icmp .lt 12, 3) := by decide +kernel
theorem dX10_in_5 : decode cX10_in 5 = .ok (.iload_n 1, 1) := by decide +kernel
theorem dX10_in_6 : decode cX10_in 6 = .ok (.iload_n 3, 1) := by decide +kernel
theorem dX10_in_7 : decode cX10_in 7 = .ok (.if_icmp .gt 7, 3) := by decide +kernel
theorem dX10_in_10 : decode cX10_in 10 = .ok (.iconst 1, 1) := by decide +kernel
theorem dX10_in_11 : decode cX10_in 11 = .ok (.goto 4, 3) := by decide +kernel
theorem dX10_in_14 : decode cX10_in 14 = .ok (.iconst 0, 1) := by decide +kernel
theorem dX10_in_15 : decode cX10_in 15 = .ok (.ireturn, 1) := by decide +kernel
theorem dX10_has_0 : decode cX10_has 0 = .ok (.iload_n 1, 1) := by decide +kernel
theorem dX10_has_1 : decode cX10_has 1 = .ok (.iload_n 2, 1) := by decide +kernel
theorem dX10_has_2 : decode cX10_has 2 = .ok (.ishr, 1) := by decide +kernel
theorem dX10_has_3 : decode cX10_has 3 = .ok (.iconst 1, 1) := by decide +kernel
theorem dX10_has_4 : decode cX10_has 4 = .ok (.iand, 1) := by decide +kernel
theorem dX10_has_5 : decode cX10_has 5 = .ok (.iconst 1, 1) := by decide +kernel
theorem dX10_has_6 : decode cX10_has 6 = .ok (.if_icmp .ne 7, 3) := by decide +kernel
theorem dX10_has_9 : decode cX10_has 9 = .ok (.iconst 1, 1) := by decide +kernel
theorem dX10_has_10 : decode cX10_has 10 = .ok (.goto 4, 3) := by decide +kernel
theorem dX10_has_13 : decode cX10_has 13 = .ok (.iconst 0, 1) := by decide +kernel
theorem dX10_has_14 : decode cX10_has 14 = .ok (.ireturn, 1) := by decide +kernel
theorem dX10_isClock_0 : decode cX10_isClock 0 = .ok (.aload_n 0, 1) := by decide +kernel
theorem dX10_isClock_1 : decode cX10_isClock 1 = .ok (.iload_n 1, 1) := by decide +kernel
theorem dX10_isClock_2 : decode cX10_isClock 2 = .ok (.iconst 0, 1) := by decide +kernel
theorem dX10_isClock_3 : decode cX10_isClock 3 = .ok (.aload_n 0, 1) := by decide +kernel
theorem dX10_isClock_4 : decode cX10_isClock 4 = .ok (.getfield 7, 3) := by decide +kernel
theorem dX10_isClock_7 : decode cX10_isClock 7 = .ok (.iconst 1, 1) := by decide +kernel
theorem dX10_isClock_8 : decode cX10_isClock 8 = .ok (.isub, 1) := by decide +kernel
theorem dX10_isClock_9 : decode cX10_isClock 9 = .ok (.invokevirtual 212, 3) := by decide +kernel
theorem dX10_isClock_12 : decode cX10_isClock 12 = .ok (.ireturn, 1) := by decide +kernel
theorem dX10_isEvenings_0 : decode cX10_isEvenings 0 = .ok (.aload_n 0, 1) := by decide +kernel
theorem dX10_isEvenings_1 : decode cX10_isEvenings 1 = .ok (.iload_n 1, 1) := by decide +kernel
theorem dX10_isEvenings_2 : decode cX10_isEvenings 2 = .ok (.iconst 0, 1) := by decide +kernel
theorem dX10_isEvenings_3 : decode cX10_isEvenings 3 = .ok (.bipush 60, 2) := by decide +kernel
theorem dX10_isEvenings_5 : decode cX10_isEvenings 5 = .ok (.invokevirtual 212, 3) := by decide +kernel
theorem dX10_isEvenings_8 : decode cX10_isEvenings 8 = .ok (.ireturn, 1) := by decide +kernel
theorem dX10_isDay_0 : decode cX10_isDay 0 = .ok (.aload_n 0, 1) := by decide +kernel
theorem dX10_isDay_1 : decode cX10_isDay 1 = .ok (.iload_n 1, 1) := by decide +kernel
theorem dX10_isDay_2 : decode cX10_isDay 2 = .ok (.iconst 0, 1) := by decide +kernel
theorem dX10_isDay_3 : decode cX10_isDay 3 = .ok (.sipush 9999, 3) := by decide +kernel
theorem dX10_isDay_6 : decode cX10_isDay 6 = .ok (.invokevirtual 212, 3) := by decide +kernel
theorem dX10_isDay_9 : decode cX10_isDay 9 = .ok (.ireturn, 1) := by decide +kernel
theorem dX10_balks_0 : decode cX10_balks 0 = .ok (.aload_n 0, 1) := by decide +kernel
theorem dX10_balks_1 : decode cX10_balks 1 = .ok (.iload_n 2, 1) := by decide +kernel
theorem dX10_balks_2 : decode cX10_balks 2 = .ok (.ifCond .eq 14, 3) := by decide +kernel
theorem dX10_balks_5 : decode cX10_balks 5 = .ok (.aload_n 0, 1) := by decide +kernel
theorem dX10_balks_6 : decode cX10_balks 6 = .ok (.getfield 13, 3) := by decide +kernel
theorem dX10_balks_9 : decode cX10_balks 9 = .ok (.iconst 1, 1) := by decide +kernel
theorem dX10_balks_10 : decode cX10_balks 10 = .ok (.iload_n 1, 1) := by decide +kernel
theorem dX10_balks_11 : decode cX10_balks 11 = .ok (.ishl, 1) := by decide +kernel
theorem dX10_balks_12 : decode cX10_balks 12 = .ok (.ior, 1) := by decide +kernel
theorem dX10_balks_13 : decode cX10_balks 13 = .ok (.goto 13, 3) := by decide +kernel
theorem dX10_balks_16 : decode cX10_balks 16 = .ok (.aload_n 0, 1) := by decide +kernel
theorem dX10_balks_17 : decode cX10_balks 17 = .ok (.getfield 13, 3) := by decide +kernel
theorem dX10_balks_20 : decode cX10_balks 20 = .ok (.iconst 1, 1) := by decide +kernel
theorem dX10_balks_21 : decode cX10_balks 21 = .ok (.iload_n 1, 1) := by decide +kernel
theorem dX10_balks_22 : decode cX10_balks 22 = .ok (.ishl, 1) := by decide +kernel
theorem dX10_balks_23 : decode cX10_balks 23 = .ok (.iconst (-1), 1) := by decide +kernel
theorem dX10_balks_24 : decode cX10_balks 24 = .ok (.ixor, 1) := by decide +kernel
theorem dX10_balks_25 : decode cX10_balks 25 = .ok (.iand, 1) := by decide +kernel
theorem dX10_balks_26 : decode cX10_balks 26 = .ok (.putfield 13, 3) := by decide +kernel
theorem dX10_balks_29 : decode cX10_balks 29 = .ok (.return_, 1) := by decide +kernel
theorem dX10_clock_0 : decode cX10_clock 0 = .ok (.aload_n 0, 1) := by decide +kernel
theorem dX10_clock_1 : decode cX10_clock 1 = .ok (.iload_n 1, 1) := by decide +kernel
theorem dX10_clock_2 : decode cX10_clock 2 = .ok (.iconst 0, 1) := by decide +kernel
theorem dX10_clock_3 : decode cX10_clock 3 = .ok (.bipush 6, 2) := by decide +kernel
theorem dX10_clock_5 : decode cX10_clock 5 = .ok (.invokevirtual 212, 3) := by decide +kernel
theorem dX10_clock_8 : decode cX10_clock 8 = .ok (.ifCond .ne 5, 3) := by decide +kernel
theorem dX10_clock_11 : decode cX10_clock 11 = .ok (.iconst (-1), 1) := by decide +kernel
theorem dX10_clock_12 : decode cX10_clock 12 = .ok (.ireturn, 1) := by decide +kernel
theorem dX10_clock_13 : decode cX10_clock 13 = .ok (.aload_n 0, 1) := by decide +kernel
theorem dX10_clock_14 : decode cX10_clock 14 = .ok (.iload_n 2, 1) := by decide +kernel
theorem dX10_clock_15 : decode cX10_clock 15 = .ok (.iconst 0, 1) := by decide +kernel
theorem dX10_clock_16 : decode cX10_clock 16 = .ok (.bipush 9, 2) := by decide +kernel
theorem dX10_clock_18 : decode cX10_clock 18 = .ok (.invokevirtual 212, 3) := by decide +kernel
theorem dX10_clock_21 : decode cX10_clock 21 = .ok (.ifCond .eq 16, 3) := by decide +kernel
theorem dX10_clock_24 : decode cX10_clock 24 = .ok (.aload_n 0, 1) := by decide +kernel
theorem dX10_clock_25 : decode cX10_clock 25 = .ok (.iload_n 3, 1) := by decide +kernel
theorem dX10_clock_26 : decode cX10_clock 26 = .ok (.iconst 0, 1) := by decide +kernel
theorem dX10_clock_27 : decode cX10_clock 27 = .ok (.aload_n 0, 1) := by decide +kernel
theorem dX10_clock_28 : decode cX10_clock 28 = .ok (.getfield 16, 3) := by decide +kernel
theorem dX10_clock_31 : decode cX10_clock 31 = .ok (.invokevirtual 212, 3) := by decide +kernel
theorem dX10_clock_34 : decode cX10_clock 34 = .ok (.ifCond .ne 6, 3) := by decide +kernel
theorem dX10_clock_37 : decode cX10_clock 37 = .ok (.bipush (-2), 2) := by decide +kernel
theorem dX10_clock_39 : decode cX10_clock 39 = .ok (.ireturn, 1) := by decide +kernel
theorem dX10_clock_40 : decode cX10_clock 40 = .ok (.aload_n 0, 1) := by decide +kernel
theorem dX10_clock_41 : decode cX10_clock 41 = .ok (.getfield 7, 3) := by decide +kernel
theorem dX10_clock_44 : decode cX10_clock 44 = .ok (.bipush 6, 2) := by decide +kernel
theorem dX10_clock_46 : decode cX10_clock 46 = .ok (.if_icmp .ne 6, 3) := by decide +kernel
theorem dX10_clock_49 : decode cX10_clock 49 = .ok (.bipush (-4), 2) := by decide +kernel
theorem dX10_clock_51 : decode cX10_clock 51 = .ok (.ireturn, 1) := by decide +kernel
theorem dX10_clock_52 : decode cX10_clock 52 = .ok (.aload_n 0, 1) := by decide +kernel
theorem dX10_clock_53 : decode cX10_clock 53 = .ok (.getfield 19, 3) := by decide +kernel
theorem dX10_clock_56 : decode cX10_clock 56 = .ok (.aload_n 0, 1) := by decide +kernel
theorem dX10_clock_57 : decode cX10_clock 57 = .ok (.getfield 7, 3) := by decide +kernel
theorem dX10_clock_60 : decode cX10_clock 60 = .ok (.iload_n 1, 1) := by decide +kernel
theorem dX10_clock_61 : decode cX10_clock 61 = .ok (.iastore, 1) := by decide +kernel
theorem dX10_clock_62 : decode cX10_clock 62 = .ok (.aload_n 0, 1) := by decide +kernel
theorem dX10_clock_63 : decode cX10_clock 63 = .ok (.getfield 23, 3) := by decide +kernel
theorem dX10_clock_66 : decode cX10_clock 66 = .ok (.aload_n 0, 1) := by decide +kernel
theorem dX10_clock_67 : decode cX10_clock 67 = .ok (.getfield 7, 3) := by decide +kernel
theorem dX10_clock_70 : decode cX10_clock 70 = .ok (.iload_n 2, 1) := by decide +kernel
theorem dX10_clock_71 : decode cX10_clock 71 = .ok (.iastore, 1) := by decide +kernel
theorem dX10_clock_72 : decode cX10_clock 72 = .ok (.aload_n 0, 1) := by decide +kernel
theorem dX10_clock_73 : decode cX10_clock 73 = .ok (.getfield 26, 3) := by decide +kernel
theorem dX10_clock_76 : decode cX10_clock 76 = .ok (.aload_n 0, 1) := by decide +kernel
theorem dX10_clock_77 : decode cX10_clock 77 = .ok (.getfield 7, 3) := by decide +kernel
theorem dX10_clock_80 : decode cX10_clock 80 = .ok (.aload_n 0, 1) := by decide +kernel
theorem dX10_clock_81 : decode cX10_clock 81 = .ok (.getfield 16, 3) := by decide +kernel
theorem dX10_clock_84 : decode cX10_clock 84 = .ok (.iload_n 3, 1) := by decide +kernel
theorem dX10_clock_85 : decode cX10_clock 85 = .ok (.isub, 1) := by decide +kernel
theorem dX10_clock_86 : decode cX10_clock 86 = .ok (.iastore, 1) := by decide +kernel
theorem dX10_clock_87 : decode cX10_clock 87 = .ok (.aload_n 0, 1) := by decide +kernel
theorem dX10_clock_88 : decode cX10_clock 88 = .ok (.aload_n 0, 1) := by decide +kernel
theorem dX10_clock_89 : decode cX10_clock 89 = .ok (.getfield 7, 3) := by decide +kernel
theorem dX10_clock_92 : decode cX10_clock 92 = .ok (.iconst 0, 1) := by decide +kernel
theorem dX10_clock_93 : decode cX10_clock 93 = .ok (.invokevirtual 216, 3) := by decide +kernel
theorem dX10_clock_96 : decode cX10_clock 96 = .ok (.iconst 0, 1) := by decide +kernel
theorem dX10_clock_97 : decode cX10_clock 97 = .ok (.istore 4, 2) := by decide +kernel
theorem dX10_clock_99 : decode cX10_clock 99 = .ok (.iload 4, 2) := by decide +kernel
theorem dX10_clock_101 : decode cX10_clock 101 = .ok (.iconst 4, 1) := by decide +kernel
theorem dX10_clock_102 : decode cX10_clock 102 = .ok (.if_icmp .ge 24, 3) := by decide +kernel
theorem dX10_clock_105 : decode cX10_clock 105 = .ok (.aload_n 0, 1) := by decide +kernel
theorem dX10_clock_106 : decode cX10_clock 106 = .ok (.getfield 29, 3) := by decide +kernel
theorem dX10_clock_109 : decode cX10_clock 109 = .ok (.iconst 4, 1) := by decide +kernel
theorem dX10_clock_110 : decode cX10_clock 110 = .ok (.aload_n 0, 1) := by decide +kernel
theorem dX10_clock_111 : decode cX10_clock 111 = .ok (.getfield 7, 3) := by decide +kernel
theorem dX10_clock_114 : decode cX10_clock 114 = .ok (.imul, 1) := by decide +kernel
theorem dX10_clock_115 : decode cX10_clock 115 = .ok (.iload 4, 2) := by decide +kernel
theorem dX10_clock_117 : decode cX10_clock 117 = .ok (.iadd, 1) := by decide +kernel
theorem dX10_clock_118 : decode cX10_clock 118 = .ok (.iconst 0, 1) := by decide +kernel
theorem dX10_clock_119 : decode cX10_clock 119 = .ok (.iastore, 1) := by decide +kernel
theorem dX10_clock_120 : decode cX10_clock 120 = .ok (.iinc 4 1, 3) := by decide +kernel
theorem dX10_clock_123 : decode cX10_clock 123 = .ok (.goto (-24), 3) := by decide +kernel
theorem dX10_clock_126 : decode cX10_clock 126 = .ok (.aload_n 0, 1) := by decide +kernel
theorem dX10_clock_127 : decode cX10_clock 127 = .ok (.dup, 1) := by decide +kernel
theorem dX10_clock_128 : decode cX10_clock 128 = .ok (.getfield 7, 3) := by decide +kernel
theorem dX10_clock_131 : decode cX10_clock 131 = .ok (.iconst 1, 1) := by decide +kernel
theorem dX10_clock_132 : decode cX10_clock 132 = .ok (.iadd, 1) := by decide +kernel
theorem dX10_clock_133 : decode cX10_clock 133 = .ok (.putfield 7, 3) := by decide +kernel
theorem dX10_clock_136 : decode cX10_clock 136 = .ok (.aload_n 0, 1) := by decide +kernel
theorem dX10_clock_137 : decode cX10_clock 137 = .ok (.getfield 7, 3) := by decide +kernel
theorem dX10_clock_140 : decode cX10_clock 140 = .ok (.iconst 1, 1) := by decide +kernel
theorem dX10_clock_141 : decode cX10_clock 141 = .ok (.isub, 1) := by decide +kernel
theorem dX10_clock_142 : decode cX10_clock 142 = .ok (.ireturn, 1) := by decide +kernel
theorem dX10_set_0 : decode cX10_set 0 = .ok (.aload_n 0, 1) := by decide +kernel
theorem dX10_set_1 : decode cX10_set 1 = .ok (.iload_n 1, 1) := by decide +kernel
theorem dX10_set_2 : decode cX10_set 2 = .ok (.invokevirtual 220, 3) := by decide +kernel
theorem dX10_set_5 : decode cX10_set 5 = .ok (.ifCond .ne 5, 3) := by decide +kernel
theorem dX10_set_8 : decode cX10_set 8 = .ok (.iconst (-1), 1) := by decide +kernel
theorem dX10_set_9 : decode cX10_set 9 = .ok (.ireturn, 1) := by decide +kernel
theorem dX10_set_10 : decode cX10_set 10 = .ok (.aload_n 0, 1) := by decide +kernel
theorem dX10_set_11 : decode cX10_set 11 = .ok (.iload_n 2, 1) := by decide +kernel
theorem dX10_set_12 : decode cX10_set 12 = .ok (.iconst 0, 1) := by decide +kernel
theorem dX10_set_13 : decode cX10_set 13 = .ok (.aload_n 0, 1) := by decide +kernel
theorem dX10_set_14 : decode cX10_set 14 = .ok (.getfield 16, 3) := by decide +kernel
theorem dX10_set_17 : decode cX10_set 17 = .ok (.invokevirtual 212, 3) := by decide +kernel
theorem dX10_set_20 : decode cX10_set 20 = .ok (.ifCond .ne 6, 3) := by decide +kernel
theorem dX10_set_23 : decode cX10_set 23 = .ok (.bipush (-2), 2) := by decide +kernel
theorem dX10_set_25 : decode cX10_set 25 = .ok (.ireturn, 1) := by decide +kernel
theorem dX10_set_26 : decode cX10_set 26 = .ok (.aload_n 0, 1) := by decide +kernel
theorem dX10_set_27 : decode cX10_set 27 = .ok (.getfield 26, 3) := by decide +kernel
theorem dX10_set_30 : decode cX10_set 30 = .ok (.iload_n 1, 1) := by decide +kernel
theorem dX10_set_31 : decode cX10_set 31 = .ok (.iaload, 1) := by decide +kernel
theorem dX10_set_32 : decode cX10_set 32 = .ok (.istore_n 3, 1) := by decide +kernel
theorem dX10_set_33 : decode cX10_set 33 = .ok (.aload_n 0, 1) := by decide +kernel
theorem dX10_set_34 : decode cX10_set 34 = .ok (.getfield 26, 3) := by decide +kernel
theorem dX10_set_37 : decode cX10_set 37 = .ok (.iload_n 1, 1) := by decide +kernel
theorem dX10_set_38 : decode cX10_set 38 = .ok (.iload_n 2, 1) := by decide +kernel
theorem dX10_set_39 : decode cX10_set 39 = .ok (.iastore, 1) := by decide +kernel
theorem dX10_set_40 : decode cX10_set 40 = .ok (.iload_n 3, 1) := by decide +kernel
theorem dX10_set_41 : decode cX10_set 41 = .ok (.ireturn, 1) := by decide +kernel
theorem dX10_balk_0 : decode cX10_balk 0 = .ok (.aload_n 0, 1) := by decide +kernel
theorem dX10_balk_1 : decode cX10_balk 1 = .ok (.iload_n 1, 1) := by decide +kernel
theorem dX10_balk_2 : decode cX10_balk 2 = .ok (.invokevirtual 220, 3) := by decide +kernel
theorem dX10_balk_5 : decode cX10_balk 5 = .ok (.ifCond .ne 5, 3) := by decide +kernel
theorem dX10_balk_8 : decode cX10_balk 8 = .ok (.iconst (-1), 1) := by decide +kernel
theorem dX10_balk_9 : decode cX10_balk 9 = .ok (.ireturn, 1) := by decide +kernel
theorem dX10_balk_10 : decode cX10_balk 10 = .ok (.aload_n 0, 1) := by decide +kernel
theorem dX10_balk_11 : decode cX10_balk 11 = .ok (.aload_n 0, 1) := by decide +kernel
theorem dX10_balk_12 : decode cX10_balk 12 = .ok (.getfield 13, 3) := by decide +kernel
theorem dX10_balk_15 : decode cX10_balk 15 = .ok (.iload_n 1, 1) := by decide +kernel
theorem dX10_balk_16 : decode cX10_balk 16 = .ok (.invokevirtual 224, 3) := by decide +kernel
theorem dX10_balk_19 : decode cX10_balk 19 = .ok (.ifCond .eq 7, 3) := by decide +kernel
theorem dX10_balk_22 : decode cX10_balk 22 = .ok (.iconst 1, 1) := by decide +kernel
theorem dX10_balk_23 : decode cX10_balk 23 = .ok (.goto 4, 3) := by decide +kernel
theorem dX10_balk_26 : decode cX10_balk 26 = .ok (.iconst 0, 1) := by decide +kernel
theorem dX10_balk_27 : decode cX10_balk 27 = .ok (.istore_n 3, 1) := by decide +kernel
theorem dX10_balk_28 : decode cX10_balk 28 = .ok (.aload_n 0, 1) := by decide +kernel
theorem dX10_balk_29 : decode cX10_balk 29 = .ok (.iload_n 1, 1) := by decide +kernel
theorem dX10_balk_30 : decode cX10_balk 30 = .ok (.iload_n 2, 1) := by decide +kernel
theorem dX10_balk_31 : decode cX10_balk 31 = .ok (.invokevirtual 216, 3) := by decide +kernel
theorem dX10_balk_34 : decode cX10_balk 34 = .ok (.iload_n 3, 1) := by decide +kernel
theorem dX10_balk_35 : decode cX10_balk 35 = .ok (.ireturn, 1) := by decide +kernel
theorem dX10_row_0 : decode cX10_row 0 = .ok (.aload_n 0, 1) := by decide +kernel
theorem dX10_row_1 : decode cX10_row 1 = .ok (.iload_n 1, 1) := by decide +kernel
theorem dX10_row_2 : decode cX10_row 2 = .ok (.invokevirtual 220, 3) := by decide +kernel
theorem dX10_row_5 : decode cX10_row 5 = .ok (.ifCond .eq 13, 3) := by decide +kernel
theorem dX10_row_8 : decode cX10_row 8 = .ok (.aload_n 0, 1) := by decide +kernel
theorem dX10_row_9 : decode cX10_row 9 = .ok (.iload_n 2, 1) := by decide +kernel
theorem dX10_row_10 : decode cX10_row 10 = .ok (.iconst 0, 1) := by decide +kernel
theorem dX10_row_11 : decode cX10_row 11 = .ok (.iconst 3, 1) := by decide +kernel
theorem dX10_row_12 : decode cX10_row 12 = .ok (.invokevirtual 212, 3) := by decide +kernel
theorem dX10_row_15 : decode cX10_row 15 = .ok (.ifCond .ne 5, 3) := by decide +kernel
theorem dX10_row_18 : decode cX10_row 18 = .ok (.iconst (-1), 1) := by decide +kernel
theorem dX10_row_19 : decode cX10_row 19 = .ok (.ireturn, 1) := by decide +kernel
theorem dX10_row_20 : decode cX10_row 20 = .ok (.aload_n 0, 1) := by decide +kernel
theorem dX10_row_21 : decode cX10_row 21 = .ok (.iload_n 3, 1) := by decide +kernel
theorem dX10_row_22 : decode cX10_row 22 = .ok (.iconst 0, 1) := by decide +kernel
theorem dX10_row_23 : decode cX10_row 23 = .ok (.bipush 9, 2) := by decide +kernel
theorem dX10_row_25 : decode cX10_row 25 = .ok (.invokevirtual 212, 3) := by decide +kernel
theorem dX10_row_28 : decode cX10_row 28 = .ok (.ifCond .ne 6, 3) := by decide +kernel
theorem dX10_row_31 : decode cX10_row 31 = .ok (.bipush (-2), 2) := by decide +kernel
theorem dX10_row_33 : decode cX10_row 33 = .ok (.ireturn, 1) := by decide +kernel
theorem dX10_row_34 : decode cX10_row 34 = .ok (.aload_n 0, 1) := by decide +kernel
theorem dX10_row_35 : decode cX10_row 35 = .ok (.getfield 19, 3) := by decide +kernel
theorem dX10_row_38 : decode cX10_row 38 = .ok (.iload_n 1, 1) := by decide +kernel
theorem dX10_row_39 : decode cX10_row 39 = .ok (.iaload, 1) := by decide +kernel
theorem dX10_row_40 : decode cX10_row 40 = .ok (.bipush 6, 2) := by decide +kernel
theorem dX10_row_42 : decode cX10_row 42 = .ok (.if_icmp .eq 6, 3) := by decide +kernel
theorem dX10_row_45 : decode cX10_row 45 = .ok (.bipush (-3), 2) := by decide +kernel
theorem dX10_row_47 : decode cX10_row 47 = .ok (.ireturn, 1) := by decide +kernel
theorem dX10_row_48 : decode cX10_row 48 = .ok (.aload_n 0, 1) := by decide +kernel
theorem dX10_row_49 : decode cX10_row 49 = .ok (.getfield 29, 3) := by decide +kernel
theorem dX10_row_52 : decode cX10_row 52 = .ok (.iconst 4, 1) := by decide +kernel
theorem dX10_row_53 : decode cX10_row 53 = .ok (.iload_n 1, 1) := by decide +kernel
theorem dX10_row_54 : decode cX10_row 54 = .ok (.imul, 1) := by decide +kernel
theorem dX10_row_55 : decode cX10_row 55 = .ok (.iload_n 2, 1) := by decide +kernel
theorem dX10_row_56 : decode cX10_row 56 = .ok (.iadd, 1) := by decide +kernel
theorem dX10_row_57 : decode cX10_row 57 = .ok (.iaload, 1) := by decide +kernel
theorem dX10_row_58 : decode cX10_row 58 = .ok (.istore 4, 2) := by decide +kernel
theorem dX10_row_60 : decode cX10_row 60 = .ok (.aload_n 0, 1) := by decide +kernel
theorem dX10_row_61 : decode cX10_row 61 = .ok (.getfield 29, 3) := by decide +kernel
theorem dX10_row_64 : decode cX10_row 64 = .ok (.iconst 4, 1) := by decide +kernel
theorem dX10_row_65 : decode cX10_row 65 = .ok (.iload_n 1, 1) := by decide +kernel
theorem dX10_row_66 : decode cX10_row 66 = .ok (.imul, 1) := by decide +kernel
theorem dX10_row_67 : decode cX10_row 67 = .ok (.iload_n 2, 1) := by decide +kernel
theorem dX10_row_68 : decode cX10_row 68 = .ok (.iadd, 1) := by decide +kernel
theorem dX10_row_69 : decode cX10_row 69 = .ok (.iload_n 3, 1) := by decide +kernel
theorem dX10_row_70 : decode cX10_row 70 = .ok (.iastore, 1) := by decide +kernel
theorem dX10_row_71 : decode cX10_row 71 = .ok (.iload 4, 2) := by decide +kernel
theorem dX10_row_73 : decode cX10_row 73 = .ok (.ireturn, 1) := by decide +kernel
theorem dX10_feed_0 : decode cX10_feed 0 = .ok (.aload_n 0, 1) := by decide +kernel
theorem dX10_feed_1 : decode cX10_feed 1 = .ok (.iload_n 1, 1) := by decide +kernel
theorem dX10_feed_2 : decode cX10_feed 2 = .ok (.iconst 0, 1) := by decide +kernel
theorem dX10_feed_3 : decode cX10_feed 3 = .ok (.bipush 127, 2) := by decide +kernel
theorem dX10_feed_5 : decode cX10_feed 5 = .ok (.invokevirtual 212, 3) := by decide +kernel
theorem dX10_feed_8 : decode cX10_feed 8 = .ok (.ifCond .ne 6, 3) := by decide +kernel
theorem dX10_feed_11 : decode cX10_feed 11 = .ok (.bipush (-2), 2) := by decide +kernel
theorem dX10_feed_13 : decode cX10_feed 13 = .ok (.ireturn, 1) := by decide +kernel
theorem dX10_feed_14 : decode cX10_feed 14 = .ok (.aload_n 0, 1) := by decide +kernel
theorem dX10_feed_15 : decode cX10_feed 15 = .ok (.getfield 38, 3) := by decide +kernel
theorem dX10_feed_18 : decode cX10_feed 18 = .ok (.bipush 100, 2) := by decide +kernel
theorem dX10_feed_20 : decode cX10_feed 20 = .ok (.if_icmp .ne 6, 3) := by decide +kernel
theorem dX10_feed_23 : decode cX10_feed 23 = .ok (.bipush (-4), 2) := by decide +kernel
theorem dX10_feed_25 : decode cX10_feed 25 = .ok (.ireturn, 1) := by decide +kernel
theorem dX10_feed_26 : decode cX10_feed 26 = .ok (.aload_n 0, 1) := by decide +kernel
theorem dX10_feed_27 : decode cX10_feed 27 = .ok (.getfield 47, 3) := by decide +kernel
theorem dX10_feed_30 : decode cX10_feed 30 = .ok (.aload_n 0, 1) := by decide +kernel
theorem dX10_feed_31 : decode cX10_feed 31 = .ok (.getfield 38, 3) := by decide +kernel
theorem dX10_feed_34 : decode cX10_feed 34 = .ok (.iload_n 1, 1) := by decide +kernel
theorem dX10_feed_35 : decode cX10_feed 35 = .ok (.iastore, 1) := by decide +kernel
theorem dX10_feed_36 : decode cX10_feed 36 = .ok (.aload_n 0, 1) := by decide +kernel
theorem dX10_feed_37 : decode cX10_feed 37 = .ok (.dup, 1) := by decide +kernel
theorem dX10_feed_38 : decode cX10_feed 38 = .ok (.getfield 38, 3) := by decide +kernel
theorem dX10_feed_41 : decode cX10_feed 41 = .ok (.iconst 1, 1) := by decide +kernel
theorem dX10_feed_42 : decode cX10_feed 42 = .ok (.iadd, 1) := by decide +kernel
theorem dX10_feed_43 : decode cX10_feed 43 = .ok (.putfield 38, 3) := by decide +kernel
theorem dX10_feed_46 : decode cX10_feed 46 = .ok (.aload_n 0, 1) := by decide +kernel
theorem dX10_feed_47 : decode cX10_feed 47 = .ok (.getfield 38, 3) := by decide +kernel
theorem dX10_feed_50 : decode cX10_feed 50 = .ok (.ireturn, 1) := by decide +kernel
theorem dX10_peek_0 : decode cX10_peek 0 = .ok (.aload_n 0, 1) := by decide +kernel
theorem dX10_peek_1 : decode cX10_peek 1 = .ok (.getfield 41, 3) := by decide +kernel
theorem dX10_peek_4 : decode cX10_peek 4 = .ok (.aload_n 0, 1) := by decide +kernel
theorem dX10_peek_5 : decode cX10_peek 5 = .ok (.getfield 38, 3) := by decide +kernel
theorem dX10_peek_8 : decode cX10_peek 8 = .ok (.if_icmp .ge 15, 3) := by decide +kernel
theorem dX10_peek_11 : decode cX10_peek 11 = .ok (.aload_n 0, 1) := by decide +kernel
theorem dX10_peek_12 : decode cX10_peek 12 = .ok (.getfield 47, 3) := by decide +kernel
theorem dX10_peek_15 : decode cX10_peek 15 = .ok (.aload_n 0, 1) := by decide +kernel
theorem dX10_peek_16 : decode cX10_peek 16 = .ok (.getfield 41, 3) := by decide +kernel
theorem dX10_peek_19 : decode cX10_peek 19 = .ok (.iaload, 1) := by decide +kernel
theorem dX10_peek_20 : decode cX10_peek 20 = .ok (.goto 4, 3) := by decide +kernel
theorem dX10_peek_23 : decode cX10_peek 23 = .ok (.iconst (-1), 1) := by decide +kernel
theorem dX10_peek_24 : decode cX10_peek 24 = .ok (.ireturn, 1) := by decide +kernel
theorem dX10_takes_0 : decode cX10_takes 0 = .ok (.aload_n 0, 1) := by decide +kernel
theorem dX10_takes_1 : decode cX10_takes 1 = .ok (.invokevirtual 228, 3) := by decide +kernel
theorem dX10_takes_4 : decode cX10_takes 4 = .ok (.iload_n 1, 1) := by decide +kernel
theorem dX10_takes_5 : decode cX10_takes 5 = .ok (.if_icmp .eq 5, 3) := by decide +kernel
theorem dX10_takes_8 : decode cX10_takes 8 = .ok (.iconst 0, 1) := by decide +kernel
theorem dX10_takes_9 : decode cX10_takes 9 = .ok (.ireturn, 1) := by decide +kernel
theorem dX10_takes_10 : decode cX10_takes 10 = .ok (.aload_n 0, 1) := by decide +kernel
theorem dX10_takes_11 : decode cX10_takes 11 = .ok (.dup, 1) := by decide +kernel
theorem dX10_takes_12 : decode cX10_takes 12 = .ok (.getfield 41, 3) := by decide +kernel
theorem dX10_takes_15 : decode cX10_takes 15 = .ok (.iconst 1, 1) := by decide +kernel
theorem dX10_takes_16 : decode cX10_takes 16 = .ok (.iadd, 1) := by decide +kernel
theorem dX10_takes_17 : decode cX10_takes 17 = .ok (.putfield 41, 3) := by decide +kernel
theorem dX10_takes_20 : decode cX10_takes 20 = .ok (.iconst 1, 1) := by decide +kernel
theorem dX10_takes_21 : decode cX10_takes 21 = .ok (.ireturn, 1) := by decide +kernel
theorem dX10_takesWord_0 : decode cX10_takesWord 0 = .ok (.iconst 0, 1) := by decide +kernel
theorem dX10_takesWord_1 : decode cX10_takesWord 1 = .ok (.istore_n 3, 1) := by decide +kernel
theorem dX10_takesWord_2 : decode cX10_takesWord 2 = .ok (.iload_n 3, 1) := by decide +kernel
theorem dX10_takesWord_3 : decode cX10_takesWord 3 = .ok (.iload_n 2, 1) := by decide +kernel
theorem dX10_takesWord_4 : decode cX10_takesWord 4 = .ok (.if_icmp .ge 26, 3) := by decide +kernel
theorem dX10_takesWord_7 : decode cX10_takesWord 7 = .ok (.aload_n 0, 1) := by decide +kernel
theorem dX10_takesWord_8 : decode cX10_takesWord 8 = .ok (.aload_n 0, 1) := by decide +kernel
theorem dX10_takesWord_9 : decode cX10_takesWord 9 = .ok (.getfield 80, 3) := by decide +kernel
theorem dX10_takesWord_12 : decode cX10_takesWord 12 = .ok (.iload_n 1, 1) := by decide +kernel
theorem dX10_takesWord_13 : decode cX10_takesWord 13 = .ok (.iload_n 3, 1) := by decide +kernel
theorem dX10_takesWord_14 : decode cX10_takesWord 14 = .ok (.iadd, 1) := by decide +kernel
theorem dX10_takesWord_15 : decode cX10_takesWord 15 = .ok (.iaload, 1) := by decide +kernel
theorem dX10_takesWord_16 : decode cX10_takesWord 16 = .ok (.invokevirtual 232, 3) := by decide +kernel
theorem dX10_takesWord_19 : decode cX10_takesWord 19 = .ok (.ifCond .ne 5, 3) := by decide +kernel
theorem dX10_takesWord_22 : decode cX10_takesWord 22 = .ok (.iconst 0, 1) := by decide +kernel
theorem dX10_takesWord_23 : decode cX10_takesWord 23 = .ok (.ireturn, 1) := by decide +kernel
theorem dX10_takesWord_24 : decode cX10_takesWord 24 = .ok (.iinc 3 1, 3) := by decide +kernel
theorem dX10_takesWord_27 : decode cX10_takesWord 27 = .ok (.goto (-25), 3) := by decide +kernel
theorem dX10_takesWord_30 : decode cX10_takesWord 30 = .ok (.aload_n 0, 1) := by decide +kernel
theorem dX10_takesWord_31 : decode cX10_takesWord 31 = .ok (.bipush 32, 2) := by decide +kernel
theorem dX10_takesWord_33 : decode cX10_takesWord 33 = .ok (.invokevirtual 232, 3) := by decide +kernel
theorem dX10_takesWord_36 : decode cX10_takesWord 36 = .ok (.ireturn, 1) := by decide +kernel
theorem dX10_isDigit_0 : decode cX10_isDigit 0 = .ok (.aload_n 0, 1) := by decide +kernel
theorem dX10_isDigit_1 : decode cX10_isDigit 1 = .ok (.aload_n 0, 1) := by decide +kernel
theorem dX10_isDigit_2 : decode cX10_isDigit 2 = .ok (.invokevirtual 228, 3) := by decide +kernel
theorem dX10_isDigit_5 : decode cX10_isDigit 5 = .ok (.bipush 48, 2) := by decide +kernel
theorem dX10_isDigit_7 : decode cX10_isDigit 7 = .ok (.bipush 57, 2) := by decide +kernel
theorem dX10_isDigit_9 : decode cX10_isDigit 9 = .ok (.invokevirtual 212, 3) := by decide +kernel
theorem dX10_isDigit_12 : decode cX10_isDigit 12 = .ok (.ireturn, 1) := by decide +kernel
theorem dX10_takesNumber_0 : decode cX10_takesNumber 0 = .ok (.aload_n 0, 1) := by decide +kernel
theorem dX10_takesNumber_1 : decode cX10_takesNumber 1 = .ok (.invokevirtual 235, 3) := by decide +kernel
theorem dX10_takesNumber_4 : decode cX10_takesNumber 4 = .ok (.ifCond .ne 5, 3) := by decide +kernel
theorem dX10_takesNumber_7 : decode cX10_takesNumber 7 = .ok (.iconst 0, 1) := by decide +kernel
theorem dX10_takesNumber_8 : decode cX10_takesNumber 8 = .ok (.ireturn, 1) := by decide +kernel
theorem dX10_takesNumber_9 : decode cX10_takesNumber 9 = .ok (.aload_n 0, 1) := by decide +kernel
theorem dX10_takesNumber_10 : decode cX10_takesNumber 10 = .ok (.iconst 0, 1) := by decide +kernel
theorem dX10_takesNumber_11 : decode cX10_takesNumber 11 = .ok (.putfield 44, 3) := by decide +kernel
theorem dX10_takesNumber_14 : decode cX10_takesNumber 14 = .ok (.iconst 0, 1) := by decide +kernel
theorem dX10_takesNumber_15 : decode cX10_takesNumber 15 = .ok (.istore_n 1, 1) := by decide +kernel
theorem dX10_takesNumber_16 : decode cX10_takesNumber 16 = .ok (.iload_n 1, 1) := by decide +kernel
theorem dX10_takesNumber_17 : decode cX10_takesNumber 17 = .ok (.iconst 2, 1) := by decide +kernel
theorem dX10_takesNumber_18 : decode cX10_takesNumber 18 = .ok (.if_icmp .ge 45, 3) := by decide +kernel
theorem dX10_takesNumber_21 : decode cX10_takesNumber 21 = .ok (.aload_n 0, 1) := by decide +kernel
theorem dX10_takesNumber_22 : decode cX10_takesNumber 22 = .ok (.invokevirtual 235, 3) := by decide +kernel
theorem dX10_takesNumber_25 : decode cX10_takesNumber 25 = .ok (.ifCond .eq 38, 3) := by decide +kernel
theorem dX10_takesNumber_28 : decode cX10_takesNumber 28 = .ok (.aload_n 0, 1) := by decide +kernel
theorem dX10_takesNumber_29 : decode cX10_takesNumber 29 = .ok (.bipush 10, 2) := by decide +kernel
theorem dX10_takesNumber_31 : decode cX10_takesNumber 31 = .ok (.aload_n 0, 1) := by decide +kernel
theorem dX10_takesNumber_32 : decode cX10_takesNumber 32 = .ok (.getfield 44, 3) := by decide +kernel
theorem dX10_takesNumber_35 : decode cX10_takesNumber 35 = .ok (.imul, 1) := by decide +kernel
theorem dX10_takesNumber_36 : decode cX10_takesNumber 36 = .ok (.aload_n 0, 1) := by decide +kernel
theorem dX10_takesNumber_37 : decode cX10_takesNumber 37 = .ok (.invokevirtual 228, 3) := by decide +kernel
theorem dX10_takesNumber_40 : decode cX10_takesNumber 40 = .ok (.iadd, 1) := by decide +kernel
theorem dX10_takesNumber_41 : decode cX10_takesNumber 41 = .ok (.bipush 48, 2) := by decide +kernel
theorem dX10_takesNumber_43 : decode cX10_takesNumber 43 = .ok (.isub, 1) := by decide +kernel
theorem dX10_takesNumber_44 : decode cX10_takesNumber 44 = .ok (.putfield 44, 3) := by decide +kernel
theorem dX10_takesNumber_47 : decode cX10_takesNumber 47 = .ok (.aload_n 0, 1) := by decide +kernel
theorem dX10_takesNumber_48 : decode cX10_takesNumber 48 = .ok (.dup, 1) := by decide +kernel
theorem dX10_takesNumber_49 : decode cX10_takesNumber 49 = .ok (.getfield 41, 3) := by decide +kernel
theorem dX10_takesNumber_52 : decode cX10_takesNumber 52 = .ok (.iconst 1, 1) := by decide +kernel
theorem dX10_takesNumber_53 : decode cX10_takesNumber 53 = .ok (.iadd, 1) := by decide +kernel
theorem dX10_takesNumber_54 : decode cX10_takesNumber 54 = .ok (.putfield 41, 3) := by decide +kernel
theorem dX10_takesNumber_57 : decode cX10_takesNumber 57 = .ok (.iinc 1 1, 3) := by decide +kernel
theorem dX10_takesNumber_60 : decode cX10_takesNumber 60 = .ok (.goto (-44), 3) := by decide +kernel
theorem dX10_takesNumber_63 : decode cX10_takesNumber 63 = .ok (.iconst 1, 1) := by decide +kernel
theorem dX10_takesNumber_64 : decode cX10_takesNumber 64 = .ok (.ireturn, 1) := by decide +kernel
theorem dX10_emits_0 : decode cX10_emits 0 = .ok (.aload_n 0, 1) := by decide +kernel
theorem dX10_emits_1 : decode cX10_emits 1 = .ok (.getfield 65, 3) := by decide +kernel
theorem dX10_emits_4 : decode cX10_emits 4 = .ok (.aload_n 0, 1) := by decide +kernel
theorem dX10_emits_5 : decode cX10_emits 5 = .ok (.getfield 71, 3) := by decide +kernel
theorem dX10_emits_8 : decode cX10_emits 8 = .ok (.iload_n 1, 1) := by decide +kernel
theorem dX10_emits_9 : decode cX10_emits 9 = .ok (.iastore, 1) := by decide +kernel
theorem dX10_emits_10 : decode cX10_emits 10 = .ok (.aload_n 0, 1) := by decide +kernel
theorem dX10_emits_11 : decode cX10_emits 11 = .ok (.dup, 1) := by decide +kernel
theorem dX10_emits_12 : decode cX10_emits 12 = .ok (.getfield 71, 3) := by decide +kernel
theorem dX10_emits_15 : decode cX10_emits 15 = .ok (.iconst 1, 1) := by decide +kernel
theorem dX10_emits_16 : decode cX10_emits 16 = .ok (.iadd, 1) := by decide +kernel
theorem dX10_emits_17 : decode cX10_emits 17 = .ok (.putfield 71, 3) := by decide +kernel
theorem dX10_emits_20 : decode cX10_emits 20 = .ok (.return_, 1) := by decide +kernel
theorem dX10_whole_0 : decode cX10_whole 0 = .ok (.aload_n 0, 1) := by decide +kernel
theorem dX10_whole_1 : decode cX10_whole 1 = .ok (.getfield 74, 3) := by decide +kernel
theorem dX10_whole_4 : decode cX10_whole 4 = .ok (.ifCond .le 48, 3) := by decide +kernel
theorem dX10_whole_7 : decode cX10_whole 7 = .ok (.aload_n 0, 1) := by decide +kernel
theorem dX10_whole_8 : decode cX10_whole 8 = .ok (.getfield 68, 3) := by decide +kernel
theorem dX10_whole_11 : decode cX10_whole 11 = .ok (.aload_n 0, 1) := by decide +kernel
theorem dX10_whole_12 : decode cX10_whole 12 = .ok (.getfield 74, 3) := by decide +kernel
theorem dX10_whole_15 : decode cX10_whole 15 = .ok (.iconst 1, 1) := by decide +kernel
theorem dX10_whole_16 : decode cX10_whole 16 = .ok (.isub, 1) := by decide +kernel
theorem dX10_whole_17 : decode cX10_whole 17 = .ok (.iaload, 1) := by decide +kernel
theorem dX10_whole_18 : decode cX10_whole 18 = .ok (.bipush 33, 2) := by decide +kernel
theorem dX10_whole_20 : decode cX10_whole 20 = .ok (.if_icmp .ne 32, 3) := by decide +kernel
theorem dX10_whole_23 : decode cX10_whole 23 = .ok (.aload_n 0, 1) := by decide +kernel
theorem dX10_whole_24 : decode cX10_whole 24 = .ok (.bipush (-33), 2) := by decide +kernel
theorem dX10_whole_26 : decode cX10_whole 26 = .ok (.invokevirtual 239, 3) := by decide +kernel
theorem dX10_whole_29 : decode cX10_whole 29 = .ok (.aload_n 0, 1) := by decide +kernel
theorem dX10_whole_30 : decode cX10_whole 30 = .ok (.dup, 1) := by decide +kernel
theorem dX10_whole_31 : decode cX10_whole 31 = .ok (.getfield 74, 3) := by decide +kernel
theorem dX10_whole_34 : decode cX10_whole 34 = .ok (.iconst 1, 1) := by decide +kernel
theorem dX10_whole_35 : decode cX10_whole 35 = .ok (.isub, 1) := by decide +kernel
theorem dX10_whole_36 : decode cX10_whole 36 = .ok (.putfield 74, 3) := by decide +kernel
theorem dX10_whole_39 : decode cX10_whole 39 = .ok (.aload_n 0, 1) := by decide +kernel
theorem dX10_whole_40 : decode cX10_whole 40 = .ok (.dup, 1) := by decide +kernel
theorem dX10_whole_41 : decode cX10_whole 41 = .ok (.getfield 77, 3) := by decide +kernel
theorem dX10_whole_44 : decode cX10_whole 44 = .ok (.iconst 1, 1) := by decide +kernel
theorem dX10_whole_45 : decode cX10_whole 45 = .ok (.isub, 1) := by decide +kernel
theorem dX10_whole_46 : decode cX10_whole 46 = .ok (.putfield 77, 3) := by decide +kernel
theorem dX10_whole_49 : decode cX10_whole 49 = .ok (.goto (-49), 3) := by decide +kernel
theorem dX10_whole_52 : decode cX10_whole 52 = .ok (.return_, 1) := by decide +kernel
theorem dX10_settle_0 : decode cX10_settle 0 = .ok (.aload_n 0, 1) := by decide +kernel
theorem dX10_settle_1 : decode cX10_settle 1 = .ok (.getfield 74, 3) := by decide +kernel
theorem dX10_settle_4 : decode cX10_settle 4 = .ok (.ifCond .le 68, 3) := by decide +kernel
theorem dX10_settle_7 : decode cX10_settle 7 = .ok (.aload_n 0, 1) := by decide +kernel
theorem dX10_settle_8 : decode cX10_settle 8 = .ok (.getfield 68, 3) := by decide +kernel
theorem dX10_settle_11 : decode cX10_settle 11 = .ok (.aload_n 0, 1) := by decide +kernel
theorem dX10_settle_12 : decode cX10_settle 12 = .ok (.getfield 74, 3) := by decide +kernel
theorem dX10_settle_15 : decode cX10_settle 15 = .ok (.iconst 1, 1) := by decide +kernel
theorem dX10_settle_16 : decode cX10_settle 16 = .ok (.isub, 1) := by decide +kernel
theorem dX10_settle_17 : decode cX10_settle 17 = .ok (.iaload, 1) := by decide +kernel
theorem dX10_settle_18 : decode cX10_settle 18 = .ok (.bipush 38, 2) := by decide +kernel
theorem dX10_settle_20 : decode cX10_settle 20 = .ok (.if_icmp .eq 25, 3) := by decide +kernel
theorem dX10_settle_23 : decode cX10_settle 23 = .ok (.aload_n 0, 1) := by decide +kernel
theorem dX10_settle_24 : decode cX10_settle 24 = .ok (.getfield 68, 3) := by decide +kernel
theorem dX10_settle_27 : decode cX10_settle 27 = .ok (.aload_n 0, 1) := by decide +kernel
theorem dX10_settle_28 : decode cX10_settle 28 = .ok (.getfield 74, 3) := by decide +kernel
theorem dX10_settle_31 : decode cX10_settle 31 = .ok (.iconst 1, 1) := by decide +kernel
theorem dX10_settle_32 : decode cX10_settle 32 = .ok (.isub, 1) := by decide +kernel
theorem dX10_settle_33 : decode cX10_settle 33 = .ok (.iaload, 1) := by decide +kernel
theorem dX10_settle_34 : decode cX10_settle 34 = .ok (.bipush 124, 2) := by decide +kernel
theorem dX10_settle_36 : decode cX10_settle 36 = .ok (.if_icmp .ne 36, 3) := by decide +kernel
theorem dX10_settle_39 : decode cX10_settle 39 = .ok (.iload_n 1, 1) := by decide +kernel
theorem dX10_settle_40 : decode cX10_settle 40 = .ok (.bipush 38, 2) := by decide +kernel
theorem dX10_settle_42 : decode cX10_settle 42 = .ok (.if_icmp .eq 30, 3) := by decide +kernel
theorem dX10_settle_45 : decode cX10_settle 45 = .ok (.aload_n 0, 1) := by decide +kernel
theorem dX10_settle_46 : decode cX10_settle 46 = .ok (.dup, 1) := by decide +kernel
theorem dX10_settle_47 : decode cX10_settle 47 = .ok (.getfield 74, 3) := by decide +kernel
theorem dX10_settle_50 : decode cX10_settle 50 = .ok (.iconst 1, 1) := by decide +kernel
theorem dX10_settle_51 : decode cX10_settle 51 = .ok (.isub, 1) := by decide +kernel
theorem dX10_settle_52 : decode cX10_settle 52 = .ok (.putfield 74, 3) := by decide +kernel
theorem dX10_settle_55 : decode cX10_settle 55 = .ok (.aload_n 0, 1) := by decide +kernel
theorem dX10_settle_56 : decode cX10_settle 56 = .ok (.aload_n 0, 1) := by decide +kernel
theorem dX10_settle_57 : decode cX10_settle 57 = .ok (.getfield 68, 3) := by decide +kernel
theorem dX10_settle_60 : decode cX10_settle 60 = .ok (.aload_n 0, 1) := by decide +kernel
theorem dX10_settle_61 : decode cX10_settle 61 = .ok (.getfield 74, 3) := by decide +kernel
theorem dX10_settle_64 : decode cX10_settle 64 = .ok (.iaload, 1) := by decide +kernel
theorem dX10_settle_65 : decode cX10_settle 65 = .ok (.ineg, 1) := by decide +kernel
theorem dX10_settle_66 : decode cX10_settle 66 = .ok (.invokevirtual 239, 3) := by decide +kernel
theorem dX10_settle_69 : decode cX10_settle 69 = .ok (.goto (-69), 3) := by decide +kernel
theorem dX10_settle_72 : decode cX10_settle 72 = .ok (.return_, 1) := by decide +kernel
theorem dX10_place_0 : decode cX10_place 0 = .ok (.iload_n 1, 1) := by decide +kernel
theorem dX10_place_1 : decode cX10_place 1 = .ok (.tableswitch 107 99 118 #[95, 101, 107, 107, 107, 105, 107, 107, 97, 107, 107, 107, 107, 107, 107, 107, 107, 103, 107, 99], 95) := by decide +kernel
theorem dX10_place_96 : decode cX10_place 96 = .ok (.iconst 0, 1) := by decide +kernel
theorem dX10_place_97 : decode cX10_place 97 = .ok (.ireturn, 1) := by decide +kernel
theorem dX10_place_98 : decode cX10_place 98 = .ok (.iconst 1, 1) := by decide +kernel
theorem dX10_place_99 : decode cX10_place 99 = .ok (.ireturn, 1) := by decide +kernel
theorem dX10_place_100 : decode cX10_place 100 = .ok (.iconst 2, 1) := by decide +kernel
theorem dX10_place_101 : decode cX10_place 101 = .ok (.ireturn, 1) := by decide +kernel
theorem dX10_place_102 : decode cX10_place 102 = .ok (.iconst 3, 1) := by decide +kernel
theorem dX10_place_103 : decode cX10_place 103 = .ok (.ireturn, 1) := by decide +kernel
theorem dX10_place_104 : decode cX10_place 104 = .ok (.iconst 4, 1) := by decide +kernel
theorem dX10_place_105 : decode cX10_place 105 = .ok (.ireturn, 1) := by decide +kernel
theorem dX10_place_106 : decode cX10_place 106 = .ok (.iconst 5, 1) := by decide +kernel
theorem dX10_place_107 : decode cX10_place 107 = .ok (.ireturn, 1) := by decide +kernel
theorem dX10_place_108 : decode cX10_place 108 = .ok (.iconst (-1), 1) := by decide +kernel
theorem dX10_place_109 : decode cX10_place 109 = .ok (.ireturn, 1) := by decide +kernel
theorem dX10_takesTest_0 : decode cX10_takesTest 0 = .ok (.aload_n 0, 1) := by decide +kernel
theorem dX10_takesTest_1 : decode cX10_takesTest 1 = .ok (.aload_n 0, 1) := by decide +kernel
theorem dX10_takesTest_2 : decode cX10_takesTest 2 = .ok (.invokevirtual 228, 3) := by decide +kernel
theorem dX10_takesTest_5 : decode cX10_takesTest 5 = .ok (.invokevirtual 243, 3) := by decide +kernel
theorem dX10_takesTest_8 : decode cX10_takesTest 8 = .ok (.istore_n 1, 1) := by decide +kernel
theorem dX10_takesTest_9 : decode cX10_takesTest 9 = .ok (.iload_n 1, 1) := by decide +kernel
theorem dX10_takesTest_10 : decode cX10_takesTest 10 = .ok (.ifCond .ge 5, 3) := by decide +kernel
theorem dX10_takesTest_13 : decode cX10_takesTest 13 = .ok (.iconst 0, 1) := by decide +kernel
theorem dX10_takesTest_14 : decode cX10_takesTest 14 = .ok (.ireturn, 1) := by decide +kernel
theorem dX10_takesTest_15 : decode cX10_takesTest 15 = .ok (.aload_n 0, 1) := by decide +kernel
theorem dX10_takesTest_16 : decode cX10_takesTest 16 = .ok (.dup, 1) := by decide +kernel
theorem dX10_takesTest_17 : decode cX10_takesTest 17 = .ok (.getfield 41, 3) := by decide +kernel
theorem dX10_takesTest_20 : decode cX10_takesTest 20 = .ok (.iconst 1, 1) := by decide +kernel
theorem dX10_takesTest_21 : decode cX10_takesTest 21 = .ok (.iadd, 1) := by decide +kernel
theorem dX10_takesTest_22 : decode cX10_takesTest 22 = .ok (.putfield 41, 3) := by decide +kernel
theorem dX10_takesTest_25 : decode cX10_takesTest 25 = .ok (.aload_n 0, 1) := by decide +kernel
theorem dX10_takesTest_26 : decode cX10_takesTest 26 = .ok (.invokevirtual 228, 3) := by decide +kernel
theorem dX10_takesTest_29 : decode cX10_takesTest 29 = .ok (.istore_n 2, 1) := by decide +kernel
theorem dX10_takesTest_30 : decode cX10_takesTest 30 = .ok (.aload_n 0, 1) := by decide +kernel
theorem dX10_takesTest_31 : decode cX10_takesTest 31 = .ok (.iload_n 2, 1) := by decide +kernel
theorem dX10_takesTest_32 : decode cX10_takesTest 32 = .ok (.bipush 60, 2) := by decide +kernel
theorem dX10_takesTest_34 : decode cX10_takesTest 34 = .ok (.bipush 62, 2) := by decide +kernel
theorem dX10_takesTest_36 : decode cX10_takesTest 36 = .ok (.invokevirtual 212, 3) := by decide +kernel
theorem dX10_takesTest_39 : decode cX10_takesTest 39 = .ok (.ifCond .ne 5, 3) := by decide +kernel
theorem dX10_takesTest_42 : decode cX10_takesTest 42 = .ok (.iconst 0, 1) := by decide +kernel
theorem dX10_takesTest_43 : decode cX10_takesTest 43 = .ok (.ireturn, 1) := by decide +kernel
theorem dX10_takesTest_44 : decode cX10_takesTest 44 = .ok (.aload_n 0, 1) := by decide +kernel
theorem dX10_takesTest_45 : decode cX10_takesTest 45 = .ok (.dup, 1) := by decide +kernel
theorem dX10_takesTest_46 : decode cX10_takesTest 46 = .ok (.getfield 41, 3) := by decide +kernel
theorem dX10_takesTest_49 : decode cX10_takesTest 49 = .ok (.iconst 1, 1) := by decide +kernel
theorem dX10_takesTest_50 : decode cX10_takesTest 50 = .ok (.iadd, 1) := by decide +kernel
theorem dX10_takesTest_51 : decode cX10_takesTest 51 = .ok (.putfield 41, 3) := by decide +kernel
theorem dX10_takesTest_54 : decode cX10_takesTest 54 = .ok (.aload_n 0, 1) := by decide +kernel
theorem dX10_takesTest_55 : decode cX10_takesTest 55 = .ok (.invokevirtual 247, 3) := by decide +kernel
theorem dX10_takesTest_58 : decode cX10_takesTest 58 = .ok (.ifCond .ne 5, 3) := by decide +kernel
theorem dX10_takesTest_61 : decode cX10_takesTest 61 = .ok (.iconst 0, 1) := by decide +kernel
theorem dX10_takesTest_62 : decode cX10_takesTest 62 = .ok (.ireturn, 1) := by decide +kernel
theorem dX10_takesTest_63 : decode cX10_takesTest 63 = .ok (.aload_n 0, 1) := by decide +kernel
theorem dX10_takesTest_64 : decode cX10_takesTest 64 = .ok (.sipush 1000, 3) := by decide +kernel
theorem dX10_takesTest_67 : decode cX10_takesTest 67 = .ok (.iload_n 1, 1) := by decide +kernel
theorem dX10_takesTest_68 : decode cX10_takesTest 68 = .ok (.imul, 1) := by decide +kernel
theorem dX10_takesTest_69 : decode cX10_takesTest 69 = .ok (.bipush 100, 2) := by decide +kernel
theorem dX10_takesTest_71 : decode cX10_takesTest 71 = .ok (.iload_n 2, 1) := by decide +kernel
theorem dX10_takesTest_72 : decode cX10_takesTest 72 = .ok (.bipush 60, 2) := by decide +kernel
theorem dX10_takesTest_74 : decode cX10_takesTest 74 = .ok (.isub, 1) := by decide +kernel
theorem dX10_takesTest_75 : decode cX10_takesTest 75 = .ok (.imul, 1) := by decide +kernel
theorem dX10_takesTest_76 : decode cX10_takesTest 76 = .ok (.iadd, 1) := by decide +kernel
theorem dX10_takesTest_77 : decode cX10_takesTest 77 = .ok (.aload_n 0, 1) := by decide +kernel
theorem dX10_takesTest_78 : decode cX10_takesTest 78 = .ok (.getfield 44, 3) := by decide +kernel
theorem dX10_takesTest_81 : decode cX10_takesTest 81 = .ok (.iadd, 1) := by decide +kernel
theorem dX10_takesTest_82 : decode cX10_takesTest 82 = .ok (.invokevirtual 239, 3) := by decide +kernel
theorem dX10_takesTest_85 : decode cX10_takesTest 85 = .ok (.aload_n 0, 1) := by decide +kernel
theorem dX10_takesTest_86 : decode cX10_takesTest 86 = .ok (.invokevirtual 250, 3) := by decide +kernel
theorem dX10_takesTest_89 : decode cX10_takesTest 89 = .ok (.iconst 1, 1) := by decide +kernel
theorem dX10_takesTest_90 : decode cX10_takesTest 90 = .ok (.ireturn, 1) := by decide +kernel
theorem dX10_takesE_0 : decode cX10_takesE 0 = .ok (.aload_n 0, 1) := by decide +kernel
theorem dX10_takesE_1 : decode cX10_takesE 1 = .ok (.iconst 0, 1) := by decide +kernel
theorem dX10_takesE_2 : decode cX10_takesE 2 = .ok (.putfield 74, 3) := by decide +kernel
theorem dX10_takesE_5 : decode cX10_takesE 5 = .ok (.aload_n 0, 1) := by decide +kernel
theorem dX10_takesE_6 : decode cX10_takesE 6 = .ok (.iconst 0, 1) := by decide +kernel
theorem dX10_takesE_7 : decode cX10_takesE 7 = .ok (.putfield 77, 3) := by decide +kernel
theorem dX10_takesE_10 : decode cX10_takesE 10 = .ok (.aload_n 0, 1) := by decide +kernel
theorem dX10_takesE_11 : decode cX10_takesE 11 = .ok (.getfield 59, 3) := by decide +kernel
theorem dX10_takesE_14 : decode cX10_takesE 14 = .ok (.iload_n 1, 1) := by decide +kernel
theorem dX10_takesE_15 : decode cX10_takesE 15 = .ok (.aload_n 0, 1) := by decide +kernel
theorem dX10_takesE_16 : decode cX10_takesE 16 = .ok (.getfield 71, 3) := by decide +kernel
theorem dX10_takesE_19 : decode cX10_takesE 19 = .ok (.iastore, 1) := by decide +kernel
theorem dX10_takesE_20 : decode cX10_takesE 20 = .ok (.iconst 1, 1) := by decide +kernel
theorem dX10_takesE_21 : decode cX10_takesE 21 = .ok (.istore_n 2, 1) := by decide +kernel
theorem dX10_takesE_22 : decode cX10_takesE 22 = .ok (.aload_n 0, 1) := by decide +kernel
theorem dX10_takesE_23 : decode cX10_takesE 23 = .ok (.invokevirtual 228, 3) := by decide +kernel
theorem dX10_takesE_26 : decode cX10_takesE 26 = .ok (.istore_n 3, 1) := by decide +kernel
theorem dX10_takesE_27 : decode cX10_takesE 27 = .ok (.iload_n 2, 1) := by decide +kernel
theorem dX10_takesE_28 : decode cX10_takesE 28 = .ok (.ifCond .eq 82, 3) := by decide +kernel
theorem dX10_takesE_31 : decode cX10_takesE 31 = .ok (.iload_n 3, 1) := by decide +kernel
theorem dX10_takesE_32 : decode cX10_takesE 32 = .ok (.bipush 33, 2) := by decide +kernel
theorem dX10_takesE_34 : decode cX10_takesE 34 = .ok (.if_icmp .eq 9, 3) := by decide +kernel
theorem dX10_takesE_37 : decode cX10_takesE 37 = .ok (.iload_n 3, 1) := by decide +kernel
theorem dX10_takesE_38 : decode cX10_takesE 38 = .ok (.bipush 40, 2) := by decide +kernel
theorem dX10_takesE_40 : decode cX10_takesE 40 = .ok (.if_icmp .ne 56, 3) := by decide +kernel
theorem dX10_takesE_43 : decode cX10_takesE 43 = .ok (.aload_n 0, 1) := by decide +kernel
theorem dX10_takesE_44 : decode cX10_takesE 44 = .ok (.getfield 77, 3) := by decide +kernel
theorem dX10_takesE_47 : decode cX10_takesE 47 = .ok (.iconst 4, 1) := by decide +kernel
theorem dX10_takesE_48 : decode cX10_takesE 48 = .ok (.if_icmp .ne 5, 3) := by decide +kernel
theorem dX10_takesE_51 : decode cX10_takesE 51 = .ok (.iconst 0, 1) := by decide +kernel
theorem dX10_takesE_52 : decode cX10_takesE 52 = .ok (.ireturn, 1) := by decide +kernel
theorem dX10_takesE_53 : decode cX10_takesE 53 = .ok (.aload_n 0, 1) := by decide +kernel
theorem dX10_takesE_54 : decode cX10_takesE 54 = .ok (.dup, 1) := by decide +kernel
theorem dX10_takesE_55 : decode cX10_takesE 55 = .ok (.getfield 77, 3) := by decide +kernel
theorem dX10_takesE_58 : decode cX10_takesE 58 = .ok (.iconst 1, 1) := by decide +kernel
theorem dX10_takesE_59 : decode cX10_takesE 59 = .ok (.iadd, 1) := by decide +kernel
theorem dX10_takesE_60 : decode cX10_takesE 60 = .ok (.putfield 77, 3) := by decide +kernel
theorem dX10_takesE_63 : decode cX10_takesE 63 = .ok (.aload_n 0, 1) := by decide +kernel
theorem dX10_takesE_64 : decode cX10_takesE 64 = .ok (.getfield 68, 3) := by decide +kernel
theorem dX10_takesE_67 : decode cX10_takesE 67 = .ok (.aload_n 0, 1) := by decide +kernel
theorem dX10_takesE_68 : decode cX10_takesE 68 = .ok (.getfield 74, 3) := by decide +kernel
theorem dX10_takesE_71 : decode cX10_takesE 71 = .ok (.iload_n 3, 1) := by decide +kernel
theorem dX10_takesE_72 : decode cX10_takesE 72 = .ok (.iastore, 1) := by decide +kernel
theorem dX10_takesE_73 : decode cX10_takesE 73 = .ok (.aload_n 0, 1) := by decide +kernel
theorem dX10_takesE_74 : decode cX10_takesE 74 = .ok (.dup, 1) := by decide +kernel
theorem dX10_takesE_75 : decode cX10_takesE 75 = .ok (.getfield 74, 3) := by decide +kernel
theorem dX10_takesE_78 : decode cX10_takesE 78 = .ok (.iconst 1, 1) := by decide +kernel
theorem dX10_takesE_79 : decode cX10_takesE 79 = .ok (.iadd, 1) := by decide +kernel
theorem dX10_takesE_80 : decode cX10_takesE 80 = .ok (.putfield 74, 3) := by decide +kernel
theorem dX10_takesE_83 : decode cX10_takesE 83 = .ok (.aload_n 0, 1) := by decide +kernel
theorem dX10_takesE_84 : decode cX10_takesE 84 = .ok (.dup, 1) := by decide +kernel
theorem dX10_takesE_85 : decode cX10_takesE 85 = .ok (.getfield 41, 3) := by decide +kernel
theorem dX10_takesE_88 : decode cX10_takesE 88 = .ok (.iconst 1, 1) := by decide +kernel
theorem dX10_takesE_89 : decode cX10_takesE 89 = .ok (.iadd, 1) := by decide +kernel
theorem dX10_takesE_90 : decode cX10_takesE 90 = .ok (.putfield 41, 3) := by decide +kernel
theorem dX10_takesE_93 : decode cX10_takesE 93 = .ok (.goto (-71), 3) := by decide +kernel
theorem dX10_takesE_96 : decode cX10_takesE 96 = .ok (.aload_n 0, 1) := by decide +kernel
theorem dX10_takesE_97 : decode cX10_takesE 97 = .ok (.invokevirtual 253, 3) := by decide +kernel
theorem dX10_takesE_100 : decode cX10_takesE 100 = .ok (.ifCond .eq 8, 3) := by decide +kernel
theorem dX10_takesE_103 : decode cX10_takesE 103 = .ok (.iconst 0, 1) := by decide +kernel
theorem dX10_takesE_104 : decode cX10_takesE 104 = .ok (.istore_n 2, 1) := by decide +kernel
theorem dX10_takesE_105 : decode cX10_takesE 105 = .ok (.goto (-83), 3) := by decide +kernel
theorem dX10_takesE_108 : decode cX10_takesE 108 = .ok (.iconst 0, 1) := by decide +kernel
theorem dX10_takesE_109 : decode cX10_takesE 109 = .ok (.ireturn, 1) := by decide +kernel
theorem dX10_takesE_110 : decode cX10_takesE 110 = .ok (.iload_n 3, 1) := by decide +kernel
theorem dX10_takesE_111 : decode cX10_takesE 111 = .ok (.bipush 38, 2) := by decide +kernel
theorem dX10_takesE_113 : decode cX10_takesE 113 = .ok (.if_icmp .eq 9, 3) := by decide +kernel
theorem dX10_takesE_116 : decode cX10_takesE 116 = .ok (.iload_n 3, 1) := by decide +kernel
theorem dX10_takesE_117 : decode cX10_takesE 117 = .ok (.bipush 124, 2) := by decide +kernel
theorem dX10_takesE_119 : decode cX10_takesE 119 = .ok (.if_icmp .ne 43, 3) := by decide +kernel
theorem dX10_takesE_122 : decode cX10_takesE 122 = .ok (.aload_n 0, 1) := by decide +kernel
theorem dX10_takesE_123 : decode cX10_takesE 123 = .ok (.iload_n 3, 1) := by decide +kernel
theorem dX10_takesE_124 : decode cX10_takesE 124 = .ok (.invokevirtual 256, 3) := by decide +kernel
theorem dX10_takesE_127 : decode cX10_takesE 127 = .ok (.aload_n 0, 1) := by decide +kernel
theorem dX10_takesE_128 : decode cX10_takesE 128 = .ok (.getfield 68, 3) := by decide +kernel
theorem dX10_takesE_131 : decode cX10_takesE 131 = .ok (.aload_n 0, 1) := by decide +kernel
theorem dX10_takesE_132 : decode cX10_takesE 132 = .ok (.getfield 74, 3) := by decide +kernel
theorem dX10_takesE_135 : decode cX10_takesE 135 = .ok (.iload_n 3, 1) := by decide +kernel
theorem dX10_takesE_136 : decode cX10_takesE 136 = .ok (.iastore, 1) := by decide +kernel
theorem dX10_takesE_137 : decode cX10_takesE 137 = .ok (.aload_n 0, 1) := by decide +kernel
theorem dX10_takesE_138 : decode cX10_takesE 138 = .ok (.dup, 1) := by decide +kernel
theorem dX10_takesE_139 : decode cX10_takesE 139 = .ok (.getfield 74, 3) := by decide +kernel
theorem dX10_takesE_142 : decode cX10_takesE 142 = .ok (.iconst 1, 1) := by decide +kernel
theorem dX10_takesE_143 : decode cX10_takesE 143 = .ok (.iadd, 1) := by decide +kernel
theorem dX10_takesE_144 : decode cX10_takesE 144 = .ok (.putfield 74, 3) := by decide +kernel
theorem dX10_takesE_147 : decode cX10_takesE 147 = .ok (.iconst 1, 1) := by decide +kernel
theorem dX10_takesE_148 : decode cX10_takesE 148 = .ok (.istore_n 2, 1) := by decide +kernel
theorem dX10_takesE_149 : decode cX10_takesE 149 = .ok (.aload_n 0, 1) := by decide +kernel
theorem dX10_takesE_150 : decode cX10_takesE 150 = .ok (.dup, 1) := by decide +kernel
theorem dX10_takesE_151 : decode cX10_takesE 151 = .ok (.getfield 41, 3) := by decide +kernel
theorem dX10_takesE_154 : decode cX10_takesE 154 = .ok (.iconst 1, 1) := by decide +kernel
theorem dX10_takesE_155 : decode cX10_takesE 155 = .ok (.iadd, 1) := by decide +kernel
theorem dX10_takesE_156 : decode cX10_takesE 156 = .ok (.putfield 41, 3) := by decide +kernel
theorem dX10_takesE_159 : decode cX10_takesE 159 = .ok (.goto (-137), 3) := by decide +kernel
theorem dX10_takesE_162 : decode cX10_takesE 162 = .ok (.aload_n 0, 1) := by decide +kernel
theorem dX10_takesE_163 : decode cX10_takesE 163 = .ok (.bipush 124, 2) := by decide +kernel
theorem dX10_takesE_165 : decode cX10_takesE 165 = .ok (.invokevirtual 256, 3) := by decide +kernel
theorem dX10_takesE_168 : decode cX10_takesE 168 = .ok (.aload_n 0, 1) := by decide +kernel
theorem dX10_takesE_169 : decode cX10_takesE 169 = .ok (.getfield 62, 3) := by decide +kernel
theorem dX10_takesE_172 : decode cX10_takesE 172 = .ok (.iload_n 1, 1) := by decide +kernel
theorem dX10_takesE_173 : decode cX10_takesE 173 = .ok (.aload_n 0, 1) := by decide +kernel
theorem dX10_takesE_174 : decode cX10_takesE 174 = .ok (.getfield 71, 3) := by decide +kernel
theorem dX10_takesE_177 : decode cX10_takesE 177 = .ok (.iastore, 1) := by decide +kernel
theorem dX10_takesE_178 : decode cX10_takesE 178 = .ok (.aload_n 0, 1) := by decide +kernel
theorem dX10_takesE_179 : decode cX10_takesE 179 = .ok (.getfield 74, 3) := by decide +kernel
theorem dX10_takesE_182 : decode cX10_takesE 182 = .ok (.ifCond .ne 5, 3) := by decide +kernel
theorem dX10_takesE_185 : decode cX10_takesE 185 = .ok (.iconst 1, 1) := by decide +kernel
theorem dX10_takesE_186 : decode cX10_takesE 186 = .ok (.ireturn, 1) := by decide +kernel
theorem dX10_takesE_187 : decode cX10_takesE 187 = .ok (.iload_n 3, 1) := by decide +kernel
theorem dX10_takesE_188 : decode cX10_takesE 188 = .ok (.bipush 41, 2) := by decide +kernel
theorem dX10_takesE_190 : decode cX10_takesE 190 = .ok (.if_icmp .eq 5, 3) := by decide +kernel
theorem dX10_takesE_193 : decode cX10_takesE 193 = .ok (.iconst 0, 1) := by decide +kernel
theorem dX10_takesE_194 : decode cX10_takesE 194 = .ok (.ireturn, 1) := by decide +kernel
theorem dX10_takesE_195 : decode cX10_takesE 195 = .ok (.aload_n 0, 1) := by decide +kernel
theorem dX10_takesE_196 : decode cX10_takesE 196 = .ok (.dup, 1) := by decide +kernel
theorem dX10_takesE_197 : decode cX10_takesE 197 = .ok (.getfield 74, 3) := by decide +kernel
theorem dX10_takesE_200 : decode cX10_takesE 200 = .ok (.iconst 1, 1) := by decide +kernel
theorem dX10_takesE_201 : decode cX10_takesE 201 = .ok (.isub, 1) := by decide +kernel
theorem dX10_takesE_202 : decode cX10_takesE 202 = .ok (.putfield 74, 3) := by decide +kernel
theorem dX10_takesE_205 : decode cX10_takesE 205 = .ok (.aload_n 0, 1) := by decide +kernel
theorem dX10_takesE_206 : decode cX10_takesE 206 = .ok (.dup, 1) := by decide +kernel
theorem dX10_takesE_207 : decode cX10_takesE 207 = .ok (.getfield 77, 3) := by decide +kernel
theorem dX10_takesE_210 : decode cX10_takesE 210 = .ok (.iconst 1, 1) := by decide +kernel
theorem dX10_takesE_211 : decode cX10_takesE 211 = .ok (.isub, 1) := by decide +kernel
theorem dX10_takesE_212 : decode cX10_takesE 212 = .ok (.putfield 77, 3) := by decide +kernel
theorem dX10_takesE_215 : decode cX10_takesE 215 = .ok (.aload_n 0, 1) := by decide +kernel
theorem dX10_takesE_216 : decode cX10_takesE 216 = .ok (.dup, 1) := by decide +kernel
theorem dX10_takesE_217 : decode cX10_takesE 217 = .ok (.getfield 41, 3) := by decide +kernel
theorem dX10_takesE_220 : decode cX10_takesE 220 = .ok (.iconst 1, 1) := by decide +kernel
theorem dX10_takesE_221 : decode cX10_takesE 221 = .ok (.iadd, 1) := by decide +kernel
theorem dX10_takesE_222 : decode cX10_takesE 222 = .ok (.putfield 41, 3) := by decide +kernel
theorem dX10_takesE_225 : decode cX10_takesE 225 = .ok (.aload_n 0, 1) := by decide +kernel
theorem dX10_takesE_226 : decode cX10_takesE 226 = .ok (.invokevirtual 250, 3) := by decide +kernel
theorem dX10_takesE_229 : decode cX10_takesE 229 = .ok (.goto (-207), 3) := by decide +kernel
theorem dX10_takesHead_0 : decode cX10_takesHead 0 = .ok (.aload_n 0, 1) := by decide +kernel
theorem dX10_takesHead_1 : decode cX10_takesHead 1 = .ok (.invokevirtual 228, 3) := by decide +kernel
theorem dX10_takesHead_4 : decode cX10_takesHead 4 = .ok (.lookupswitch 56 #[(104, 42), (110, 28)], 28) := by decide +kernel
theorem dX10_takesHead_32 : decode cX10_takesHead 32 = .ok (.aload_n 0, 1) := by decide +kernel
theorem dX10_takesHead_33 : decode cX10_takesHead 33 = .ok (.getfield 53, 3) := by decide +kernel
theorem dX10_takesHead_36 : decode cX10_takesHead 36 = .ok (.iload_n 1, 1) := by decide +kernel
theorem dX10_takesHead_37 : decode cX10_takesHead 37 = .ok (.iconst 0, 1) := by decide +kernel
theorem dX10_takesHead_38 : decode cX10_takesHead 38 = .ok (.iastore, 1) := by decide +kernel
theorem dX10_takesHead_39 : decode cX10_takesHead 39 = .ok (.aload_n 0, 1) := by decide +kernel
theorem dX10_takesHead_40 : decode cX10_takesHead 40 = .ok (.iconst 0, 1) := by decide +kernel
theorem dX10_takesHead_41 : decode cX10_takesHead 41 = .ok (.iconst 4, 1) := by decide +kernel
theorem dX10_takesHead_42 : decode cX10_takesHead 42 = .ok (.invokevirtual 259, 3) := by decide +kernel
theorem dX10_takesHead_45 : decode cX10_takesHead 45 = .ok (.ireturn, 1) := by decide +kernel
theorem dX10_takesHead_46 : decode cX10_takesHead 46 = .ok (.aload_n 0, 1) := by decide +kernel
theorem dX10_takesHead_47 : decode cX10_takesHead 47 = .ok (.getfield 53, 3) := by decide +kernel
theorem dX10_takesHead_50 : decode cX10_takesHead 50 = .ok (.iload_n 1, 1) := by decide +kernel
theorem dX10_takesHead_51 : decode cX10_takesHead 51 = .ok (.iconst 1, 1) := by decide +kernel
theorem dX10_takesHead_52 : decode cX10_takesHead 52 = .ok (.iastore, 1) := by decide +kernel
theorem dX10_takesHead_53 : decode cX10_takesHead 53 = .ok (.aload_n 0, 1) := by decide +kernel
theorem dX10_takesHead_54 : decode cX10_takesHead 54 = .ok (.iconst 4, 1) := by decide +kernel
theorem dX10_takesHead_55 : decode cX10_takesHead 55 = .ok (.iconst 4, 1) := by decide +kernel
theorem dX10_takesHead_56 : decode cX10_takesHead 56 = .ok (.invokevirtual 259, 3) := by decide +kernel
theorem dX10_takesHead_59 : decode cX10_takesHead 59 = .ok (.ireturn, 1) := by decide +kernel
theorem dX10_takesHead_60 : decode cX10_takesHead 60 = .ok (.aload_n 0, 1) := by decide +kernel
theorem dX10_takesHead_61 : decode cX10_takesHead 61 = .ok (.getfield 53, 3) := by decide +kernel
theorem dX10_takesHead_64 : decode cX10_takesHead 64 = .ok (.iload_n 1, 1) := by decide +kernel
theorem dX10_takesHead_65 : decode cX10_takesHead 65 = .ok (.iconst 2, 1) := by decide +kernel
theorem dX10_takesHead_66 : decode cX10_takesHead 66 = .ok (.iastore, 1) := by decide +kernel
theorem dX10_takesHead_67 : decode cX10_takesHead 67 = .ok (.aload_n 0, 1) := by decide +kernel
theorem dX10_takesHead_68 : decode cX10_takesHead 68 = .ok (.bipush 8, 2) := by decide +kernel
theorem dX10_takesHead_70 : decode cX10_takesHead 70 = .ok (.iconst 4, 1) := by decide +kernel
theorem dX10_takesHead_71 : decode cX10_takesHead 71 = .ok (.invokevirtual 259, 3) := by decide +kernel
theorem dX10_takesHead_74 : decode cX10_takesHead 74 = .ok (.ireturn, 1) := by decide +kernel
theorem dX10_takesClause_0 : decode cX10_takesClause 0 = .ok (.aload_n 0, 1) := by decide +kernel
theorem dX10_takesClause_1 : decode cX10_takesClause 1 = .ok (.iload_n 1, 1) := by decide +kernel
theorem dX10_takesClause_2 : decode cX10_takesClause 2 = .ok (.invokevirtual 262, 3) := by decide +kernel
theorem dX10_takesClause_5 : decode cX10_takesClause 5 = .ok (.ifCond .eq 10, 3) := by decide +kernel
theorem dX10_takesClause_8 : decode cX10_takesClause 8 = .ok (.aload_n 0, 1) := by decide +kernel
theorem dX10_takesClause_9 : decode cX10_takesClause 9 = .ok (.invokevirtual 247, 3) := by decide +kernel
theorem dX10_takesClause_12 : decode cX10_takesClause 12 = .ok (.ifCond .ne 5, 3) := by decide +kernel
theorem dX10_takesClause_15 : decode cX10_takesClause 15 = .ok (.iconst 0, 1) := by decide +kernel
theorem dX10_takesClause_16 : decode cX10_takesClause 16 = .ok (.ireturn, 1) := by decide +kernel
theorem dX10_takesClause_17 : decode cX10_takesClause 17 = .ok (.aload_n 0, 1) := by decide +kernel
theorem dX10_takesClause_18 : decode cX10_takesClause 18 = .ok (.getfield 56, 3) := by decide +kernel
theorem dX10_takesClause_21 : decode cX10_takesClause 21 = .ok (.iload_n 1, 1) := by decide +kernel
theorem dX10_takesClause_22 : decode cX10_takesClause 22 = .ok (.aload_n 0, 1) := by decide +kernel
theorem dX10_takesClause_23 : decode cX10_takesClause 23 = .ok (.getfield 44, 3) := by decide +kernel
theorem dX10_takesClause_26 : decode cX10_takesClause 26 = .ok (.iastore, 1) := by decide +kernel
theorem dX10_takesClause_27 : decode cX10_takesClause 27 = .ok (.aload_n 0, 1) := by decide +kernel
theorem dX10_takesClause_28 : decode cX10_takesClause 28 = .ok (.getfield 53, 3) := by decide +kernel
theorem dX10_takesClause_31 : decode cX10_takesClause 31 = .ok (.iload_n 1, 1) := by decide +kernel
theorem dX10_takesClause_32 : decode cX10_takesClause 32 = .ok (.iaload, 1) := by decide +kernel
theorem dX10_takesClause_33 : decode cX10_takesClause 33 = .ok (.iconst 2, 1) := by decide +kernel
theorem dX10_takesClause_34 : decode cX10_takesClause 34 = .ok (.if_icmp .eq 20, 3) := by decide +kernel
theorem dX10_takesClause_37 : decode cX10_takesClause 37 = .ok (.aload_n 0, 1) := by decide +kernel
theorem dX10_takesClause_38 : decode cX10_takesClause 38 = .ok (.bipush 32, 2) := by decide +kernel
theorem dX10_takesClause_40 : decode cX10_takesClause 40 = .ok (.invokevirtual 232, 3) := by decide +kernel
theorem dX10_takesClause_43 : decode cX10_takesClause 43 = .ok (.ifCond .eq 15, 3) := by decide +kernel
theorem dX10_takesClause_46 : decode cX10_takesClause 46 = .ok (.aload_n 0, 1) := by decide +kernel
theorem dX10_takesClause_47 : decode cX10_takesClause 47 = .ok (.iload_n 1, 1) := by decide +kernel
theorem dX10_takesClause_48 : decode cX10_takesClause 48 = .ok (.invokevirtual 265, 3) := by decide +kernel
theorem dX10_takesClause_51 : decode cX10_takesClause 51 = .ok (.ifCond .eq 7, 3) := by decide +kernel
theorem dX10_takesClause_54 : decode cX10_takesClause 54 = .ok (.iconst 1, 1) := by decide +kernel
theorem dX10_takesClause_55 : decode cX10_takesClause 55 = .ok (.goto 4, 3) := by decide +kernel
theorem dX10_takesClause_58 : decode cX10_takesClause 58 = .ok (.iconst 0, 1) := by decide +kernel
theorem dX10_takesClause_59 : decode cX10_takesClause 59 = .ok (.ireturn, 1) := by decide +kernel
theorem dX10_goesText_0 : decode cX10_goesText 0 = .ok (.aload_n 0, 1) := by decide +kernel
theorem dX10_goesText_1 : decode cX10_goesText 1 = .ok (.iconst 0, 1) := by decide +kernel
theorem dX10_goesText_2 : decode cX10_goesText 2 = .ok (.putfield 41, 3) := by decide +kernel
theorem dX10_goesText_5 : decode cX10_goesText 5 = .ok (.aload_n 0, 1) := by decide +kernel
theorem dX10_goesText_6 : decode cX10_goesText 6 = .ok (.bipush 100, 2) := by decide +kernel
theorem dX10_goesText_8 : decode cX10_goesText 8 = .ok (.iload_n 1, 1) := by decide +kernel
theorem dX10_goesText_9 : decode cX10_goesText 9 = .ok (.imul, 1) := by decide +kernel
theorem dX10_goesText_10 : decode cX10_goesText 10 = .ok (.putfield 71, 3) := by decide +kernel
theorem dX10_goesText_13 : decode cX10_goesText 13 = .ok (.iconst 0, 1) := by decide +kernel
theorem dX10_goesText_14 : decode cX10_goesText 14 = .ok (.istore_n 2, 1) := by decide +kernel
theorem dX10_goesText_15 : decode cX10_goesText 15 = .ok (.aload_n 0, 1) := by decide +kernel
theorem dX10_goesText_16 : decode cX10_goesText 16 = .ok (.bipush 10, 2) := by decide +kernel
theorem dX10_goesText_18 : decode cX10_goesText 18 = .ok (.iload_n 1, 1) := by decide +kernel
theorem dX10_goesText_19 : decode cX10_goesText 19 = .ok (.imul, 1) := by decide +kernel
theorem dX10_goesText_20 : decode cX10_goesText 20 = .ok (.iload_n 2, 1) := by decide +kernel
theorem dX10_goesText_21 : decode cX10_goesText 21 = .ok (.iadd, 1) := by decide +kernel
theorem dX10_goesText_22 : decode cX10_goesText 22 = .ok (.invokevirtual 268, 3) := by decide +kernel
theorem dX10_goesText_25 : decode cX10_goesText 25 = .ok (.ifCond .ne 5, 3) := by decide +kernel
theorem dX10_goesText_28 : decode cX10_goesText 28 = .ok (.iconst 0, 1) := by decide +kernel
theorem dX10_goesText_29 : decode cX10_goesText 29 = .ok (.ireturn, 1) := by decide +kernel
theorem dX10_goesText_30 : decode cX10_goesText 30 = .ok (.iinc 2 1, 3) := by decide +kernel
theorem dX10_goesText_33 : decode cX10_goesText 33 = .ok (.aload_n 0, 1) := by decide +kernel
theorem dX10_goesText_34 : decode cX10_goesText 34 = .ok (.getfield 50, 3) := by decide +kernel
theorem dX10_goesText_37 : decode cX10_goesText 37 = .ok (.iload_n 1, 1) := by decide +kernel
theorem dX10_goesText_38 : decode cX10_goesText 38 = .ok (.iload_n 2, 1) := by decide +kernel
theorem dX10_goesText_39 : decode cX10_goesText 39 = .ok (.iastore, 1) := by decide +kernel
end
section
theorem dX10_goesText_40 : decode cX10_goesText 40 = .ok (.aload_n 0, 1) := by decide +kernel
theorem dX10_goesText_41 : decode cX10_goesText 41 = .ok (.getfield 41, 3) := by decide +kernel
theorem dX10_goesText_44 : decode cX10_goesText 44 = .ok (.aload_n 0, 1) := by decide +kernel
theorem dX10_goesText_45 : decode cX10_goesText 45 = .ok (.getfield 38, 3) := by decide +kernel
theorem dX10_goesText_48 : decode cX10_goesText 48 = .ok (.if_icmp .ne 5, 3) := by decide +kernel
theorem dX10_goesText_51 : decode cX10_goesText 51 = .ok (.iconst 1, 1) := by decide +kernel
theorem dX10_goesText_52 : decode cX10_goesText 52 = .ok (.ireturn, 1) := by decide +kernel
theorem dX10_goesText_53 : decode cX10_goesText 53 = .ok (.iload_n 2, 1) := by decide +kernel
theorem dX10_goesText_54 : decode cX10_goesText 54 = .ok (.bipush 10, 2) := by decide +kernel
theorem dX10_goesText_56 : decode cX10_goesText 56 = .ok (.if_icmp .eq 12, 3) := by decide +kernel
theorem dX10_goesText_59 : decode cX10_goesText 59 = .ok (.aload_n 0, 1) := by decide +kernel
theorem dX10_goesText_60 : decode cX10_goesText 60 = .ok (.bipush 59, 2) := by decide +kernel
theorem dX10_goesText_62 : decode cX10_goesText 62 = .ok (.invokevirtual 232, 3) := by decide +kernel
theorem dX10_goesText_65 : decode cX10_goesText 65 = .ok (.ifCond .ne (-50), 3) := by decide +kernel
theorem dX10_goesText_68 : decode cX10_goesText 68 = .ok (.iconst 0, 1) := by decide +kernel
theorem dX10_goesText_69 : decode cX10_goesText 69 = .ok (.ireturn, 1) := by decide +kernel
theorem dX10_bench_0 : decode cX10_bench 0 = .ok (.aload_n 0, 1) := by decide +kernel
theorem dX10_bench_1 : decode cX10_bench 1 = .ok (.getfield 32, 3) := by decide +kernel
theorem dX10_bench_4 : decode cX10_bench 4 = .ok (.bipush 6, 2) := by decide +kernel
theorem dX10_bench_6 : decode cX10_bench 6 = .ok (.if_icmp .ne 6, 3) := by decide +kernel
theorem dX10_bench_9 : decode cX10_bench 9 = .ok (.bipush (-4), 2) := by decide +kernel
theorem dX10_bench_11 : decode cX10_bench 11 = .ok (.ireturn, 1) := by decide +kernel
theorem dX10_bench_12 : decode cX10_bench 12 = .ok (.aload_n 0, 1) := by decide +kernel
theorem dX10_bench_13 : decode cX10_bench 13 = .ok (.aload_n 0, 1) := by decide +kernel
theorem dX10_bench_14 : decode cX10_bench 14 = .ok (.getfield 32, 3) := by decide +kernel
theorem dX10_bench_17 : decode cX10_bench 17 = .ok (.invokevirtual 271, 3) := by decide +kernel
theorem dX10_bench_20 : decode cX10_bench 20 = .ok (.istore_n 1, 1) := by decide +kernel
theorem dX10_bench_21 : decode cX10_bench 21 = .ok (.aload_n 0, 1) := by decide +kernel
theorem dX10_bench_22 : decode cX10_bench 22 = .ok (.iconst 0, 1) := by decide +kernel
theorem dX10_bench_23 : decode cX10_bench 23 = .ok (.putfield 38, 3) := by decide +kernel
theorem dX10_bench_26 : decode cX10_bench 26 = .ok (.iload_n 1, 1) := by decide +kernel
theorem dX10_bench_27 : decode cX10_bench 27 = .ok (.ifCond .ne 11, 3) := by decide +kernel
theorem dX10_bench_30 : decode cX10_bench 30 = .ok (.bipush (-10), 2) := by decide +kernel
theorem dX10_bench_32 : decode cX10_bench 32 = .ok (.aload_n 0, 1) := by decide +kernel
theorem dX10_bench_33 : decode cX10_bench 33 = .ok (.getfield 41, 3) := by decide +kernel
theorem dX10_bench_36 : decode cX10_bench 36 = .ok (.isub, 1) := by decide +kernel
theorem dX10_bench_37 : decode cX10_bench 37 = .ok (.ireturn, 1) := by decide +kernel
theorem dX10_bench_38 : decode cX10_bench 38 = .ok (.aload_n 0, 1) := by decide +kernel
theorem dX10_bench_39 : decode cX10_bench 39 = .ok (.aload_n 0, 1) := by decide +kernel
theorem dX10_bench_40 : decode cX10_bench 40 = .ok (.getfield 32, 3) := by decide +kernel
theorem dX10_bench_43 : decode cX10_bench 43 = .ok (.putfield 35, 3) := by decide +kernel
theorem dX10_bench_46 : decode cX10_bench 46 = .ok (.aload_n 0, 1) := by decide +kernel
theorem dX10_bench_47 : decode cX10_bench 47 = .ok (.dup, 1) := by decide +kernel
theorem dX10_bench_48 : decode cX10_bench 48 = .ok (.getfield 32, 3) := by decide +kernel
theorem dX10_bench_51 : decode cX10_bench 51 = .ok (.iconst 1, 1) := by decide +kernel
theorem dX10_bench_52 : decode cX10_bench 52 = .ok (.iadd, 1) := by decide +kernel
theorem dX10_bench_53 : decode cX10_bench 53 = .ok (.putfield 32, 3) := by decide +kernel
theorem dX10_bench_56 : decode cX10_bench 56 = .ok (.aload_n 0, 1) := by decide +kernel
theorem dX10_bench_57 : decode cX10_bench 57 = .ok (.getfield 35, 3) := by decide +kernel
theorem dX10_bench_60 : decode cX10_bench 60 = .ok (.ireturn, 1) := by decide +kernel
theorem dX10_begin_0 : decode cX10_begin 0 = .ok (.aload_n 0, 1) := by decide +kernel
theorem dX10_begin_1 : decode cX10_begin 1 = .ok (.getfield 35, 3) := by decide +kernel
theorem dX10_begin_4 : decode cX10_begin 4 = .ok (.ifCond .ge 7, 3) := by decide +kernel
theorem dX10_begin_7 : decode cX10_begin 7 = .ok (.iconst 0, 1) := by decide +kernel
theorem dX10_begin_8 : decode cX10_begin 8 = .ok (.goto 10, 3) := by decide +kernel
theorem dX10_begin_11 : decode cX10_begin 11 = .ok (.bipush 10, 2) := by decide +kernel
theorem dX10_begin_13 : decode cX10_begin 13 = .ok (.aload_n 0, 1) := by decide +kernel
theorem dX10_begin_14 : decode cX10_begin 14 = .ok (.getfield 35, 3) := by decide +kernel
theorem dX10_begin_17 : decode cX10_begin 17 = .ok (.imul, 1) := by decide +kernel
theorem dX10_begin_18 : decode cX10_begin 18 = .ok (.ireturn, 1) := by decide +kernel
theorem dX10_behind_0 : decode cX10_behind 0 = .ok (.aload_n 0, 1) := by decide +kernel
theorem dX10_behind_1 : decode cX10_behind 1 = .ok (.getfield 35, 3) := by decide +kernel
theorem dX10_behind_4 : decode cX10_behind 4 = .ok (.ifCond .ge 7, 3) := by decide +kernel
theorem dX10_behind_7 : decode cX10_behind 7 = .ok (.iconst 0, 1) := by decide +kernel
theorem dX10_behind_8 : decode cX10_behind 8 = .ok (.goto 20, 3) := by decide +kernel
theorem dX10_behind_11 : decode cX10_behind 11 = .ok (.bipush 10, 2) := by decide +kernel
theorem dX10_behind_13 : decode cX10_behind 13 = .ok (.aload_n 0, 1) := by decide +kernel
theorem dX10_behind_14 : decode cX10_behind 14 = .ok (.getfield 35, 3) := by decide +kernel
theorem dX10_behind_17 : decode cX10_behind 17 = .ok (.imul, 1) := by decide +kernel
theorem dX10_behind_18 : decode cX10_behind 18 = .ok (.aload_n 0, 1) := by decide +kernel
theorem dX10_behind_19 : decode cX10_behind 19 = .ok (.getfield 50, 3) := by decide +kernel
theorem dX10_behind_22 : decode cX10_behind 22 = .ok (.aload_n 0, 1) := by decide +kernel
theorem dX10_behind_23 : decode cX10_behind 23 = .ok (.getfield 35, 3) := by decide +kernel
theorem dX10_behind_26 : decode cX10_behind 26 = .ok (.iaload, 1) := by decide +kernel
theorem dX10_behind_27 : decode cX10_behind 27 = .ok (.iadd, 1) := by decide +kernel
theorem dX10_behind_28 : decode cX10_behind 28 = .ok (.ireturn, 1) := by decide +kernel
theorem dX10_pace_0 : decode cX10_pace 0 = .ok (.bipush 10, 2) := by decide +kernel
theorem dX10_pace_2 : decode cX10_pace 2 = .ok (.istore_n 1, 1) := by decide +kernel
theorem dX10_pace_3 : decode cX10_pace 3 = .ok (.aload_n 0, 1) := by decide +kernel
theorem dX10_pace_4 : decode cX10_pace 4 = .ok (.invokevirtual 274, 3) := by decide +kernel
theorem dX10_pace_7 : decode cX10_pace 7 = .ok (.istore_n 2, 1) := by decide +kernel
theorem dX10_pace_8 : decode cX10_pace 8 = .ok (.iload_n 2, 1) := by decide +kernel
theorem dX10_pace_9 : decode cX10_pace 9 = .ok (.aload_n 0, 1) := by decide +kernel
theorem dX10_pace_10 : decode cX10_pace 10 = .ok (.invokevirtual 277, 3) := by decide +kernel
theorem dX10_pace_13 : decode cX10_pace 13 = .ok (.if_icmp .ge 30, 3) := by decide +kernel
theorem dX10_pace_16 : decode cX10_pace 16 = .ok (.aload_n 0, 1) := by decide +kernel
theorem dX10_pace_17 : decode cX10_pace 17 = .ok (.getfield 53, 3) := by decide +kernel
theorem dX10_pace_20 : decode cX10_pace 20 = .ok (.iload_n 2, 1) := by decide +kernel
theorem dX10_pace_21 : decode cX10_pace 21 = .ok (.iaload, 1) := by decide +kernel
theorem dX10_pace_22 : decode cX10_pace 22 = .ok (.iconst 2, 1) := by decide +kernel
theorem dX10_pace_23 : decode cX10_pace 23 = .ok (.if_icmp .ne 12, 3) := by decide +kernel
theorem dX10_pace_26 : decode cX10_pace 26 = .ok (.aload_n 0, 1) := by decide +kernel
theorem dX10_pace_27 : decode cX10_pace 27 = .ok (.getfield 56, 3) := by decide +kernel
theorem dX10_pace_30 : decode cX10_pace 30 = .ok (.iload_n 2, 1) := by decide +kernel
theorem dX10_pace_31 : decode cX10_pace 31 = .ok (.iaload, 1) := by decide +kernel
theorem dX10_pace_32 : decode cX10_pace 32 = .ok (.goto 4, 3) := by decide +kernel
theorem dX10_pace_35 : decode cX10_pace 35 = .ok (.iload_n 1, 1) := by decide +kernel
theorem dX10_pace_36 : decode cX10_pace 36 = .ok (.istore_n 1, 1) := by decide +kernel
theorem dX10_pace_37 : decode cX10_pace 37 = .ok (.iinc 2 1, 3) := by decide +kernel
theorem dX10_pace_40 : decode cX10_pace 40 = .ok (.goto (-32), 3) := by decide +kernel
theorem dX10_pace_43 : decode cX10_pace 43 = .ok (.iload_n 1, 1) := by decide +kernel
theorem dX10_pace_44 : decode cX10_pace 44 = .ok (.iconst 1, 1) := by decide +kernel
theorem dX10_pace_45 : decode cX10_pace 45 = .ok (.if_icmp .ge 7, 3) := by decide +kernel
theorem dX10_pace_48 : decode cX10_pace 48 = .ok (.iconst 1, 1) := by decide +kernel
theorem dX10_pace_49 : decode cX10_pace 49 = .ok (.goto 4, 3) := by decide +kernel
theorem dX10_pace_52 : decode cX10_pace 52 = .ok (.iload_n 1, 1) := by decide +kernel
theorem dX10_pace_53 : decode cX10_pace 53 = .ok (.ireturn, 1) := by decide +kernel
theorem dX10_factOf_0 : decode cX10_factOf 0 = .ok (.iload_n 1, 1) := by decide +kernel
theorem dX10_factOf_1 : decode cX10_factOf 1 = .ok (.tableswitch 64 0 4 #[35, 37, 44, 51, 56], 35) := by decide +kernel
theorem dX10_factOf_36 : decode cX10_factOf 36 = .ok (.iload_n 2, 1) := by decide +kernel
theorem dX10_factOf_37 : decode cX10_factOf 37 = .ok (.ireturn, 1) := by decide +kernel
theorem dX10_factOf_38 : decode cX10_factOf 38 = .ok (.aload_n 0, 1) := by decide +kernel
theorem dX10_factOf_39 : decode cX10_factOf 39 = .ok (.getfield 19, 3) := by decide +kernel
theorem dX10_factOf_42 : decode cX10_factOf 42 = .ok (.iload_n 2, 1) := by decide +kernel
theorem dX10_factOf_43 : decode cX10_factOf 43 = .ok (.iaload, 1) := by decide +kernel
theorem dX10_factOf_44 : decode cX10_factOf 44 = .ok (.ireturn, 1) := by decide +kernel
theorem dX10_factOf_45 : decode cX10_factOf 45 = .ok (.aload_n 0, 1) := by decide +kernel
theorem dX10_factOf_46 : decode cX10_factOf 46 = .ok (.getfield 23, 3) := by decide +kernel
theorem dX10_factOf_49 : decode cX10_factOf 49 = .ok (.iload_n 2, 1) := by decide +kernel
theorem dX10_factOf_50 : decode cX10_factOf 50 = .ok (.iaload, 1) := by decide +kernel
theorem dX10_factOf_51 : decode cX10_factOf 51 = .ok (.ireturn, 1) := by decide +kernel
theorem dX10_factOf_52 : decode cX10_factOf 52 = .ok (.iload_n 3, 1) := by decide +kernel
theorem dX10_factOf_53 : decode cX10_factOf 53 = .ok (.bipush 10, 2) := by decide +kernel
theorem dX10_factOf_55 : decode cX10_factOf 55 = .ok (.irem, 1) := by decide +kernel
theorem dX10_factOf_56 : decode cX10_factOf 56 = .ok (.ireturn, 1) := by decide +kernel
theorem dX10_factOf_57 : decode cX10_factOf 57 = .ok (.iload_n 3, 1) := by decide +kernel
theorem dX10_factOf_58 : decode cX10_factOf 58 = .ok (.bipush 10, 2) := by decide +kernel
theorem dX10_factOf_60 : decode cX10_factOf 60 = .ok (.idiv, 1) := by decide +kernel
theorem dX10_factOf_61 : decode cX10_factOf 61 = .ok (.bipush 10, 2) := by decide +kernel
theorem dX10_factOf_63 : decode cX10_factOf 63 = .ok (.irem, 1) := by decide +kernel
theorem dX10_factOf_64 : decode cX10_factOf 64 = .ok (.ireturn, 1) := by decide +kernel
theorem dX10_factOf_65 : decode cX10_factOf 65 = .ok (.iload_n 3, 1) := by decide +kernel
theorem dX10_factOf_66 : decode cX10_factOf 66 = .ok (.bipush 100, 2) := by decide +kernel
theorem dX10_factOf_68 : decode cX10_factOf 68 = .ok (.irem, 1) := by decide +kernel
theorem dX10_factOf_69 : decode cX10_factOf 69 = .ok (.ireturn, 1) := by decide +kernel
theorem dX10_holds_0 : decode cX10_holds 0 = .ok (.iconst 0, 1) := by decide +kernel
theorem dX10_holds_1 : decode cX10_holds 1 = .ok (.istore 4, 2) := by decide +kernel
theorem dX10_holds_3 : decode cX10_holds 3 = .ok (.aload_n 0, 1) := by decide +kernel
theorem dX10_holds_4 : decode cX10_holds 4 = .ok (.getfield 59, 3) := by decide +kernel
theorem dX10_holds_7 : decode cX10_holds 7 = .ok (.iload_n 1, 1) := by decide +kernel
theorem dX10_holds_8 : decode cX10_holds 8 = .ok (.iaload, 1) := by decide +kernel
theorem dX10_holds_9 : decode cX10_holds 9 = .ok (.istore 5, 2) := by decide +kernel
theorem dX10_holds_11 : decode cX10_holds 11 = .ok (.iload 5, 2) := by decide +kernel
theorem dX10_holds_13 : decode cX10_holds 13 = .ok (.aload_n 0, 1) := by decide +kernel
theorem dX10_holds_14 : decode cX10_holds 14 = .ok (.getfield 62, 3) := by decide +kernel
theorem dX10_holds_17 : decode cX10_holds 17 = .ok (.iload_n 1, 1) := by decide +kernel
theorem dX10_holds_18 : decode cX10_holds 18 = .ok (.iaload, 1) := by decide +kernel
theorem dX10_holds_19 : decode cX10_holds 19 = .ok (.if_icmp .ge 234, 3) := by decide +kernel
theorem dX10_holds_22 : decode cX10_holds 22 = .ok (.aload_n 0, 1) := by decide +kernel
theorem dX10_holds_23 : decode cX10_holds 23 = .ok (.getfield 65, 3) := by decide +kernel
theorem dX10_holds_26 : decode cX10_holds 26 = .ok (.iload 5, 2) := by decide +kernel
theorem dX10_holds_28 : decode cX10_holds 28 = .ok (.iaload, 1) := by decide +kernel
theorem dX10_holds_29 : decode cX10_holds 29 = .ok (.istore 6, 2) := by decide +kernel
theorem dX10_holds_31 : decode cX10_holds 31 = .ok (.iload 6, 2) := by decide +kernel
theorem dX10_holds_33 : decode cX10_holds 33 = .ok (.bipush (-33), 2) := by decide +kernel
theorem dX10_holds_35 : decode cX10_holds 35 = .ok (.if_icmp .ne 32, 3) := by decide +kernel
theorem dX10_holds_38 : decode cX10_holds 38 = .ok (.aload_n 0, 1) := by decide +kernel
theorem dX10_holds_39 : decode cX10_holds 39 = .ok (.getfield 83, 3) := by decide +kernel
theorem dX10_holds_42 : decode cX10_holds 42 = .ok (.iload 4, 2) := by decide +kernel
theorem dX10_holds_44 : decode cX10_holds 44 = .ok (.iconst 1, 1) := by decide +kernel
theorem dX10_holds_45 : decode cX10_holds 45 = .ok (.isub, 1) := by decide +kernel
theorem dX10_holds_46 : decode cX10_holds 46 = .ok (.aload_n 0, 1) := by decide +kernel
theorem dX10_holds_47 : decode cX10_holds 47 = .ok (.getfield 83, 3) := by decide +kernel
theorem dX10_holds_50 : decode cX10_holds 50 = .ok (.iload 4, 2) := by decide +kernel
theorem dX10_holds_52 : decode cX10_holds 52 = .ok (.iconst 1, 1) := by decide +kernel
theorem dX10_holds_53 : decode cX10_holds 53 = .ok (.isub, 1) := by decide +kernel
theorem dX10_holds_54 : decode cX10_holds 54 = .ok (.baload, 1) := by decide +kernel
theorem dX10_holds_55 : decode cX10_holds 55 = .ok (.ifCond .ne 7, 3) := by decide +kernel
theorem dX10_holds_58 : decode cX10_holds 58 = .ok (.iconst 1, 1) := by decide +kernel
theorem dX10_holds_59 : decode cX10_holds 59 = .ok (.goto 4, 3) := by decide +kernel
theorem dX10_holds_62 : decode cX10_holds 62 = .ok (.iconst 0, 1) := by decide +kernel
theorem dX10_holds_63 : decode cX10_holds 63 = .ok (.bastore, 1) := by decide +kernel
theorem dX10_holds_64 : decode cX10_holds 64 = .ok (.goto 183, 3) := by decide +kernel
theorem dX10_holds_67 : decode cX10_holds 67 = .ok (.iload 6, 2) := by decide +kernel
theorem dX10_holds_69 : decode cX10_holds 69 = .ok (.ifCond .ge 82, 3) := by decide +kernel
theorem dX10_holds_72 : decode cX10_holds 72 = .ok (.iinc 4 (-1), 3) := by decide +kernel
theorem dX10_holds_75 : decode cX10_holds 75 = .ok (.aload_n 0, 1) := by decide +kernel
theorem dX10_holds_76 : decode cX10_holds 76 = .ok (.getfield 83, 3) := by decide +kernel
theorem dX10_holds_79 : decode cX10_holds 79 = .ok (.iload 4, 2) := by decide +kernel
theorem dX10_holds_81 : decode cX10_holds 81 = .ok (.iconst 1, 1) := by decide +kernel
theorem dX10_holds_82 : decode cX10_holds 82 = .ok (.isub, 1) := by decide +kernel
theorem dX10_holds_83 : decode cX10_holds 83 = .ok (.iload 6, 2) := by decide +kernel
theorem dX10_holds_85 : decode cX10_holds 85 = .ok (.bipush (-38), 2) := by decide +kernel
theorem dX10_holds_87 : decode cX10_holds 87 = .ok (.if_icmp .ne 33, 3) := by decide +kernel
theorem dX10_holds_90 : decode cX10_holds 90 = .ok (.aload_n 0, 1) := by decide +kernel
theorem dX10_holds_91 : decode cX10_holds 91 = .ok (.getfield 83, 3) := by decide +kernel
theorem dX10_holds_94 : decode cX10_holds 94 = .ok (.iload 4, 2) := by decide +kernel
theorem dX10_holds_96 : decode cX10_holds 96 = .ok (.iconst 1, 1) := by decide +kernel
theorem dX10_holds_97 : decode cX10_holds 97 = .ok (.isub, 1) := by decide +kernel
theorem dX10_holds_98 : decode cX10_holds 98 = .ok (.baload, 1) := by decide +kernel
theorem dX10_holds_99 : decode cX10_holds 99 = .ok (.ifCond .eq 17, 3) := by decide +kernel
theorem dX10_holds_102 : decode cX10_holds 102 = .ok (.aload_n 0, 1) := by decide +kernel
theorem dX10_holds_103 : decode cX10_holds 103 = .ok (.getfield 83, 3) := by decide +kernel
theorem dX10_holds_106 : decode cX10_holds 106 = .ok (.iload 4, 2) := by decide +kernel
theorem dX10_holds_108 : decode cX10_holds 108 = .ok (.baload, 1) := by decide +kernel
theorem dX10_holds_109 : decode cX10_holds 109 = .ok (.ifCond .eq 7, 3) := by decide +kernel
theorem dX10_holds_112 : decode cX10_holds 112 = .ok (.iconst 1, 1) := by decide +kernel
theorem dX10_holds_113 : decode cX10_holds 113 = .ok (.goto 34, 3) := by decide +kernel
theorem dX10_holds_116 : decode cX10_holds 116 = .ok (.iconst 0, 1) := by decide +kernel
theorem dX10_holds_117 : decode cX10_holds 117 = .ok (.goto 30, 3) := by decide +kernel
theorem dX10_holds_120 : decode cX10_holds 120 = .ok (.aload_n 0, 1) := by decide +kernel
theorem dX10_holds_121 : decode cX10_holds 121 = .ok (.getfield 83, 3) := by decide +kernel
theorem dX10_holds_124 : decode cX10_holds 124 = .ok (.iload 4, 2) := by decide +kernel
theorem dX10_holds_126 : decode cX10_holds 126 = .ok (.iconst 1, 1) := by decide +kernel
theorem dX10_holds_127 : decode cX10_holds 127 = .ok (.isub, 1) := by decide +kernel
theorem dX10_holds_128 : decode cX10_holds 128 = .ok (.baload, 1) := by decide +kernel
theorem dX10_holds_129 : decode cX10_holds 129 = .ok (.ifCond .ne 13, 3) := by decide +kernel
theorem dX10_holds_132 : decode cX10_holds 132 = .ok (.aload_n 0, 1) := by decide +kernel
theorem dX10_holds_133 : decode cX10_holds 133 = .ok (.getfield 83, 3) := by decide +kernel
theorem dX10_holds_136 : decode cX10_holds 136 = .ok (.iload 4, 2) := by decide +kernel
theorem dX10_holds_138 : decode cX10_holds 138 = .ok (.baload, 1) := by decide +kernel
theorem dX10_holds_139 : decode cX10_holds 139 = .ok (.ifCond .eq 7, 3) := by decide +kernel
theorem dX10_holds_142 : decode cX10_holds 142 = .ok (.iconst 1, 1) := by decide +kernel
theorem dX10_holds_143 : decode cX10_holds 143 = .ok (.goto 4, 3) := by decide +kernel
theorem dX10_holds_146 : decode cX10_holds 146 = .ok (.iconst 0, 1) := by decide +kernel
theorem dX10_holds_147 : decode cX10_holds 147 = .ok (.bastore, 1) := by decide +kernel
theorem dX10_holds_148 : decode cX10_holds 148 = .ok (.goto 99, 3) := by decide +kernel
theorem dX10_holds_151 : decode cX10_holds 151 = .ok (.aload_n 0, 1) := by decide +kernel
theorem dX10_holds_152 : decode cX10_holds 152 = .ok (.iload 6, 2) := by decide +kernel
theorem dX10_holds_154 : decode cX10_holds 154 = .ok (.sipush 1000, 3) := by decide +kernel
theorem dX10_holds_157 : decode cX10_holds 157 = .ok (.idiv, 1) := by decide +kernel
theorem dX10_holds_158 : decode cX10_holds 158 = .ok (.iload_n 2, 1) := by decide +kernel
theorem dX10_holds_159 : decode cX10_holds 159 = .ok (.iload_n 3, 1) := by decide +kernel
theorem dX10_holds_160 : decode cX10_holds 160 = .ok (.invokevirtual 280, 3) := by decide +kernel
theorem dX10_holds_163 : decode cX10_holds 163 = .ok (.istore 7, 2) := by decide +kernel
theorem dX10_holds_165 : decode cX10_holds 165 = .ok (.iload 6, 2) := by decide +kernel
theorem dX10_holds_167 : decode cX10_holds 167 = .ok (.bipush 100, 2) := by decide +kernel
theorem dX10_holds_169 : decode cX10_holds 169 = .ok (.idiv, 1) := by decide +kernel
theorem dX10_holds_170 : decode cX10_holds 170 = .ok (.bipush 10, 2) := by decide +kernel
theorem dX10_holds_172 : decode cX10_holds 172 = .ok (.irem, 1) := by decide +kernel
theorem dX10_holds_173 : decode cX10_holds 173 = .ok (.istore 8, 2) := by decide +kernel
theorem dX10_holds_175 : decode cX10_holds 175 = .ok (.aload_n 0, 1) := by decide +kernel
theorem dX10_holds_176 : decode cX10_holds 176 = .ok (.getfield 83, 3) := by decide +kernel
theorem dX10_holds_179 : decode cX10_holds 179 = .ok (.iload 4, 2) := by decide +kernel
theorem dX10_holds_181 : decode cX10_holds 181 = .ok (.iload 8, 2) := by decide +kernel
theorem dX10_holds_183 : decode cX10_holds 183 = .ok (.ifCond .ne 21, 3) := by decide +kernel
theorem dX10_holds_186 : decode cX10_holds 186 = .ok (.iload 7, 2) := by decide +kernel
theorem dX10_holds_188 : decode cX10_holds 188 = .ok (.iload 6, 2) := by decide +kernel
theorem dX10_holds_190 : decode cX10_holds 190 = .ok (.bipush 100, 2) := by decide +kernel
theorem dX10_holds_192 : decode cX10_holds 192 = .ok (.irem, 1) := by decide +kernel
theorem dX10_holds_193 : decode cX10_holds 193 = .ok (.if_icmp .ge 7, 3) := by decide +kernel
theorem dX10_holds_196 : decode cX10_holds 196 = .ok (.iconst 1, 1) := by decide +kernel
theorem dX10_holds_197 : decode cX10_holds 197 = .ok (.goto 46, 3) := by decide +kernel
theorem dX10_holds_200 : decode cX10_holds 200 = .ok (.iconst 0, 1) := by decide +kernel
theorem dX10_holds_201 : decode cX10_holds 201 = .ok (.goto 42, 3) := by decide +kernel
theorem dX10_holds_204 : decode cX10_holds 204 = .ok (.iload 8, 2) := by decide +kernel
theorem dX10_holds_206 : decode cX10_holds 206 = .ok (.iconst 1, 1) := by decide +kernel
theorem dX10_holds_207 : decode cX10_holds 207 = .ok (.if_icmp .ne 21, 3) := by decide +kernel
theorem dX10_holds_210 : decode cX10_holds 210 = .ok (.iload 7, 2) := by decide +kernel
theorem dX10_holds_212 : decode cX10_holds 212 = .ok (.iload 6, 2) := by decide +kernel
theorem dX10_holds_214 : decode cX10_holds 214 = .ok (.bipush 100, 2) := by decide +kernel
theorem dX10_holds_216 : decode cX10_holds 216 = .ok (.irem, 1) := by decide +kernel
theorem dX10_holds_217 : decode cX10_holds 217 = .ok (.if_icmp .ne 7, 3) := by decide +kernel
theorem dX10_holds_220 : decode cX10_holds 220 = .ok (.iconst 1, 1) := by decide +kernel
theorem dX10_holds_221 : decode cX10_holds 221 = .ok (.goto 22, 3) := by decide +kernel
theorem dX10_holds_224 : decode cX10_holds 224 = .ok (.iconst 0, 1) := by decide +kernel
theorem dX10_holds_225 : decode cX10_holds 225 = .ok (.goto 18, 3) := by decide +kernel
theorem dX10_holds_228 : decode cX10_holds 228 = .ok (.iload 7, 2) := by decide +kernel
theorem dX10_holds_230 : decode cX10_holds 230 = .ok (.iload 6, 2) := by decide +kernel
theorem dX10_holds_232 : decode cX10_holds 232 = .ok (.bipush 100, 2) := by decide +kernel
theorem dX10_holds_234 : decode cX10_holds 234 = .ok (.irem, 1) := by decide +kernel
theorem dX10_holds_235 : decode cX10_holds 235 = .ok (.if_icmp .le 7, 3) := by decide +kernel
theorem dX10_holds_238 : decode cX10_holds 238 = .ok (.iconst 1, 1) := by decide +kernel
theorem dX10_holds_239 : decode cX10_holds 239 = .ok (.goto 4, 3) := by decide +kernel
theorem dX10_holds_242 : decode cX10_holds 242 = .ok (.iconst 0, 1) := by decide +kernel
theorem dX10_holds_243 : decode cX10_holds 243 = .ok (.bastore, 1) := by decide +kernel
theorem dX10_holds_244 : decode cX10_holds 244 = .ok (.iinc 4 1, 3) := by decide +kernel
theorem dX10_holds_247 : decode cX10_holds 247 = .ok (.iinc 5 1, 3) := by decide +kernel
theorem dX10_holds_250 : decode cX10_holds 250 = .ok (.goto (-239), 3) := by decide +kernel
theorem dX10_holds_253 : decode cX10_holds 253 = .ok (.aload_n 0, 1) := by decide +kernel
theorem dX10_holds_254 : decode cX10_holds 254 = .ok (.getfield 83, 3) := by decide +kernel
theorem dX10_holds_257 : decode cX10_holds 257 = .ok (.iconst 0, 1) := by decide +kernel
theorem dX10_holds_258 : decode cX10_holds 258 = .ok (.baload, 1) := by decide +kernel
theorem dX10_holds_259 : decode cX10_holds 259 = .ok (.ireturn, 1) := by decide +kernel
theorem dX10_newsNow_0 : decode cX10_newsNow 0 = .ok (.iconst 1, 1) := by decide +kernel
theorem dX10_newsNow_1 : decode cX10_newsNow 1 = .ok (.istore_n 3, 1) := by decide +kernel
theorem dX10_newsNow_2 : decode cX10_newsNow 2 = .ok (.aload_n 0, 1) := by decide +kernel
theorem dX10_newsNow_3 : decode cX10_newsNow 3 = .ok (.invokevirtual 274, 3) := by decide +kernel
theorem dX10_newsNow_6 : decode cX10_newsNow 6 = .ok (.istore 4, 2) := by decide +kernel
theorem dX10_newsNow_8 : decode cX10_newsNow 8 = .ok (.iload 4, 2) := by decide +kernel
theorem dX10_newsNow_10 : decode cX10_newsNow 10 = .ok (.aload_n 0, 1) := by decide +kernel
theorem dX10_newsNow_11 : decode cX10_newsNow 11 = .ok (.invokevirtual 277, 3) := by decide +kernel
theorem dX10_newsNow_14 : decode cX10_newsNow 14 = .ok (.if_icmp .ge 65, 3) := by decide +kernel
theorem dX10_newsNow_17 : decode cX10_newsNow 17 = .ok (.aload_n 0, 1) := by decide +kernel
theorem dX10_newsNow_18 : decode cX10_newsNow 18 = .ok (.getfield 53, 3) := by decide +kernel
theorem dX10_newsNow_21 : decode cX10_newsNow 21 = .ok (.iload 4, 2) := by decide +kernel
theorem dX10_newsNow_23 : decode cX10_newsNow 23 = .ok (.iaload, 1) := by decide +kernel
theorem dX10_newsNow_24 : decode cX10_newsNow 24 = .ok (.iconst 1, 1) := by decide +kernel
theorem dX10_newsNow_25 : decode cX10_newsNow 25 = .ok (.if_icmp .gt 48, 3) := by decide +kernel
theorem dX10_newsNow_28 : decode cX10_newsNow 28 = .ok (.aload_n 0, 1) := by decide +kernel
theorem dX10_newsNow_29 : decode cX10_newsNow 29 = .ok (.iload 4, 2) := by decide +kernel
theorem dX10_newsNow_31 : decode cX10_newsNow 31 = .ok (.iload_n 1, 1) := by decide +kernel
theorem dX10_newsNow_32 : decode cX10_newsNow 32 = .ok (.iload_n 2, 1) := by decide +kernel
theorem dX10_newsNow_33 : decode cX10_newsNow 33 = .ok (.invokevirtual 284, 3) := by decide +kernel
theorem dX10_newsNow_36 : decode cX10_newsNow 36 = .ok (.ifCond .ne 6, 3) := by decide +kernel
theorem dX10_newsNow_39 : decode cX10_newsNow 39 = .ok (.goto 34, 3) := by decide +kernel
theorem dX10_newsNow_42 : decode cX10_newsNow 42 = .ok (.iload_n 3, 1) := by decide +kernel
theorem dX10_newsNow_43 : decode cX10_newsNow 43 = .ok (.aload_n 0, 1) := by decide +kernel
theorem dX10_newsNow_44 : decode cX10_newsNow 44 = .ok (.getfield 53, 3) := by decide +kernel
theorem dX10_newsNow_47 : decode cX10_newsNow 47 = .ok (.iload 4, 2) := by decide +kernel
theorem dX10_newsNow_49 : decode cX10_newsNow 49 = .ok (.iaload, 1) := by decide +kernel
theorem dX10_newsNow_50 : decode cX10_newsNow 50 = .ok (.ifCond .ne 13, 3) := by decide +kernel
theorem dX10_newsNow_53 : decode cX10_newsNow 53 = .ok (.aload_n 0, 1) := by decide +kernel
theorem dX10_newsNow_54 : decode cX10_newsNow 54 = .ok (.getfield 56, 3) := by decide +kernel
theorem dX10_newsNow_57 : decode cX10_newsNow 57 = .ok (.iload 4, 2) := by decide +kernel
theorem dX10_newsNow_59 : decode cX10_newsNow 59 = .ok (.iaload, 1) := by decide +kernel
theorem dX10_newsNow_60 : decode cX10_newsNow 60 = .ok (.goto 11, 3) := by decide +kernel
theorem dX10_newsNow_63 : decode cX10_newsNow 63 = .ok (.aload_n 0, 1) := by decide +kernel
theorem dX10_newsNow_64 : decode cX10_newsNow 64 = .ok (.getfield 56, 3) := by decide +kernel
theorem dX10_newsNow_67 : decode cX10_newsNow 67 = .ok (.iload 4, 2) := by decide +kernel
theorem dX10_newsNow_69 : decode cX10_newsNow 69 = .ok (.iaload, 1) := by decide +kernel
theorem dX10_newsNow_70 : decode cX10_newsNow 70 = .ok (.ineg, 1) := by decide +kernel
theorem dX10_newsNow_71 : decode cX10_newsNow 71 = .ok (.iadd, 1) := by decide +kernel
theorem dX10_newsNow_72 : decode cX10_newsNow 72 = .ok (.istore_n 3, 1) := by decide +kernel
theorem dX10_newsNow_73 : decode cX10_newsNow 73 = .ok (.iinc 4 1, 3) := by decide +kernel
theorem dX10_newsNow_76 : decode cX10_newsNow 76 = .ok (.goto (-68), 3) := by decide +kernel
theorem dX10_newsNow_79 : decode cX10_newsNow 79 = .ok (.iload_n 3, 1) := by decide +kernel
theorem dX10_newsNow_80 : decode cX10_newsNow 80 = .ok (.ifCond .ge 7, 3) := by decide +kernel
theorem dX10_newsNow_83 : decode cX10_newsNow 83 = .ok (.iconst 0, 1) := by decide +kernel
theorem dX10_newsNow_84 : decode cX10_newsNow 84 = .ok (.goto 4, 3) := by decide +kernel
theorem dX10_newsNow_87 : decode cX10_newsNow 87 = .ok (.iload_n 3, 1) := by decide +kernel
theorem dX10_newsNow_88 : decode cX10_newsNow 88 = .ok (.ireturn, 1) := by decide +kernel
theorem dX10_layNews_0 : decode cX10_layNews 0 = .ok (.iconst 0, 1) := by decide +kernel
theorem dX10_layNews_1 : decode cX10_layNews 1 = .ok (.istore_n 1, 1) := by decide +kernel
theorem dX10_layNews_2 : decode cX10_layNews 2 = .ok (.iload_n 1, 1) := by decide +kernel
theorem dX10_layNews_3 : decode cX10_layNews 3 = .ok (.aload_n 0, 1) := by decide +kernel
theorem dX10_layNews_4 : decode cX10_layNews 4 = .ok (.getfield 7, 3) := by decide +kernel
theorem dX10_layNews_7 : decode cX10_layNews 7 = .ok (.if_icmp .ge 61, 3) := by decide +kernel
theorem dX10_layNews_10 : decode cX10_layNews 10 = .ok (.aload_n 0, 1) := by decide +kernel
theorem dX10_layNews_11 : decode cX10_layNews 11 = .ok (.getfield 94, 3) := by decide +kernel
theorem dX10_layNews_14 : decode cX10_layNews 14 = .ok (.iload_n 1, 1) := by decide +kernel
theorem dX10_layNews_15 : decode cX10_layNews 15 = .ok (.aload_n 0, 1) := by decide +kernel
theorem dX10_layNews_16 : decode cX10_layNews 16 = .ok (.getfield 26, 3) := by decide +kernel
theorem dX10_layNews_19 : decode cX10_layNews 19 = .ok (.iload_n 1, 1) := by decide +kernel
theorem dX10_layNews_20 : decode cX10_layNews 20 = .ok (.iaload, 1) := by decide +kernel
theorem dX10_layNews_21 : decode cX10_layNews 21 = .ok (.iastore, 1) := by decide +kernel
theorem dX10_layNews_22 : decode cX10_layNews 22 = .ok (.iconst 0, 1) := by decide +kernel
theorem dX10_layNews_23 : decode cX10_layNews 23 = .ok (.istore_n 2, 1) := by decide +kernel
theorem dX10_layNews_24 : decode cX10_layNews 24 = .ok (.iload_n 2, 1) := by decide +kernel
theorem dX10_layNews_25 : decode cX10_layNews 25 = .ok (.sipush 800, 3) := by decide +kernel
theorem dX10_layNews_28 : decode cX10_layNews 28 = .ok (.if_icmp .ge 34, 3) := by decide +kernel
theorem dX10_layNews_31 : decode cX10_layNews 31 = .ok (.aload_n 0, 1) := by decide +kernel
theorem dX10_layNews_32 : decode cX10_layNews 32 = .ok (.getfield 91, 3) := by decide +kernel
theorem dX10_layNews_35 : decode cX10_layNews 35 = .ok (.sipush 800, 3) := by decide +kernel
theorem dX10_layNews_38 : decode cX10_layNews 38 = .ok (.iload_n 1, 1) := by decide +kernel
theorem dX10_layNews_39 : decode cX10_layNews 39 = .ok (.imul, 1) := by decide +kernel
theorem dX10_layNews_40 : decode cX10_layNews 40 = .ok (.iload_n 2, 1) := by decide +kernel
theorem dX10_layNews_41 : decode cX10_layNews 41 = .ok (.iadd, 1) := by decide +kernel
theorem dX10_layNews_42 : decode cX10_layNews 42 = .ok (.aload_n 0, 1) := by decide +kernel
theorem dX10_layNews_43 : decode cX10_layNews 43 = .ok (.iload_n 1, 1) := by decide +kernel
theorem dX10_layNews_44 : decode cX10_layNews 44 = .ok (.aload_n 0, 1) := by decide +kernel
theorem dX10_layNews_45 : decode cX10_layNews 45 = .ok (.getfield 26, 3) := by decide +kernel
theorem dX10_layNews_48 : decode cX10_layNews 48 = .ok (.iload_n 1, 1) := by decide +kernel
theorem dX10_layNews_49 : decode cX10_layNews 49 = .ok (.iaload, 1) := by decide +kernel
theorem dX10_layNews_50 : decode cX10_layNews 50 = .ok (.iload_n 2, 1) := by decide +kernel
theorem dX10_layNews_51 : decode cX10_layNews 51 = .ok (.iadd, 1) := by decide +kernel
theorem dX10_layNews_52 : decode cX10_layNews 52 = .ok (.invokevirtual 287, 3) := by decide +kernel
theorem dX10_layNews_55 : decode cX10_layNews 55 = .ok (.iastore, 1) := by decide +kernel
theorem dX10_layNews_56 : decode cX10_layNews 56 = .ok (.iinc 2 1, 3) := by decide +kernel
theorem dX10_layNews_59 : decode cX10_layNews 59 = .ok (.goto (-35), 3) := by decide +kernel
theorem dX10_layNews_62 : decode cX10_layNews 62 = .ok (.iinc 1 1, 3) := by decide +kernel
theorem dX10_layNews_65 : decode cX10_layNews 65 = .ok (.goto (-63), 3) := by decide +kernel
theorem dX10_layNews_68 : decode cX10_layNews 68 = .ok (.aload_n 0, 1) := by decide +kernel
theorem dX10_layNews_69 : decode cX10_layNews 69 = .ok (.iconst 1, 1) := by decide +kernel
theorem dX10_layNews_70 : decode cX10_layNews 70 = .ok (.putfield 87, 3) := by decide +kernel
theorem dX10_layNews_73 : decode cX10_layNews 73 = .ok (.return_, 1) := by decide +kernel
theorem dX10_newsOf_0 : decode cX10_newsOf 0 = .ok (.iload_n 2, 1) := by decide +kernel
theorem dX10_newsOf_1 : decode cX10_newsOf 1 = .ok (.aload_n 0, 1) := by decide +kernel
theorem dX10_newsOf_2 : decode cX10_newsOf 2 = .ok (.getfield 94, 3) := by decide +kernel
theorem dX10_newsOf_5 : decode cX10_newsOf 5 = .ok (.iload_n 1, 1) := by decide +kernel
theorem dX10_newsOf_6 : decode cX10_newsOf 6 = .ok (.iaload, 1) := by decide +kernel
theorem dX10_newsOf_7 : decode cX10_newsOf 7 = .ok (.isub, 1) := by decide +kernel
theorem dX10_newsOf_8 : decode cX10_newsOf 8 = .ok (.istore_n 3, 1) := by decide +kernel
theorem dX10_newsOf_9 : decode cX10_newsOf 9 = .ok (.aload_n 0, 1) := by decide +kernel
theorem dX10_newsOf_10 : decode cX10_newsOf 10 = .ok (.getfield 87, 3) := by decide +kernel
theorem dX10_newsOf_13 : decode cX10_newsOf 13 = .ok (.ifCond .eq 30, 3) := by decide +kernel
theorem dX10_newsOf_16 : decode cX10_newsOf 16 = .ok (.aload_n 0, 1) := by decide +kernel
theorem dX10_newsOf_17 : decode cX10_newsOf 17 = .ok (.iload_n 3, 1) := by decide +kernel
theorem dX10_newsOf_18 : decode cX10_newsOf 18 = .ok (.iconst 0, 1) := by decide +kernel
theorem dX10_newsOf_19 : decode cX10_newsOf 19 = .ok (.sipush 799, 3) := by decide +kernel
theorem dX10_newsOf_22 : decode cX10_newsOf 22 = .ok (.invokevirtual 212, 3) := by decide +kernel
theorem dX10_newsOf_25 : decode cX10_newsOf 25 = .ok (.ifCond .eq 18, 3) := by decide +kernel
theorem dX10_newsOf_28 : decode cX10_newsOf 28 = .ok (.aload_n 0, 1) := by decide +kernel
theorem dX10_newsOf_29 : decode cX10_newsOf 29 = .ok (.getfield 91, 3) := by decide +kernel
theorem dX10_newsOf_32 : decode cX10_newsOf 32 = .ok (.sipush 800, 3) := by decide +kernel
theorem dX10_newsOf_35 : decode cX10_newsOf 35 = .ok (.iload_n 1, 1) := by decide +kernel
theorem dX10_newsOf_36 : decode cX10_newsOf 36 = .ok (.imul, 1) := by decide +kernel
theorem dX10_newsOf_37 : decode cX10_newsOf 37 = .ok (.iload_n 3, 1) := by decide +kernel
theorem dX10_newsOf_38 : decode cX10_newsOf 38 = .ok (.iadd, 1) := by decide +kernel
theorem dX10_newsOf_39 : decode cX10_newsOf 39 = .ok (.iaload, 1) := by decide +kernel
theorem dX10_newsOf_40 : decode cX10_newsOf 40 = .ok (.goto 9, 3) := by decide +kernel
theorem dX10_newsOf_43 : decode cX10_newsOf 43 = .ok (.aload_n 0, 1) := by decide +kernel
theorem dX10_newsOf_44 : decode cX10_newsOf 44 = .ok (.iload_n 1, 1) := by decide +kernel
theorem dX10_newsOf_45 : decode cX10_newsOf 45 = .ok (.iload_n 2, 1) := by decide +kernel
theorem dX10_newsOf_46 : decode cX10_newsOf 46 = .ok (.invokevirtual 287, 3) := by decide +kernel
theorem dX10_newsOf_49 : decode cX10_newsOf 49 = .ok (.ireturn, 1) := by decide +kernel
theorem dX10_news_0 : decode cX10_news 0 = .ok (.aload_n 0, 1) := by decide +kernel
theorem dX10_news_1 : decode cX10_news 1 = .ok (.iload_n 1, 1) := by decide +kernel
theorem dX10_news_2 : decode cX10_news 2 = .ok (.invokevirtual 220, 3) := by decide +kernel
theorem dX10_news_5 : decode cX10_news 5 = .ok (.ifCond .ne 5, 3) := by decide +kernel
theorem dX10_news_8 : decode cX10_news 8 = .ok (.iconst (-1), 1) := by decide +kernel
theorem dX10_news_9 : decode cX10_news 9 = .ok (.ireturn, 1) := by decide +kernel
theorem dX10_news_10 : decode cX10_news 10 = .ok (.aload_n 0, 1) := by decide +kernel
theorem dX10_news_11 : decode cX10_news 11 = .ok (.iload_n 2, 1) := by decide +kernel
theorem dX10_news_12 : decode cX10_news 12 = .ok (.invokevirtual 291, 3) := by decide +kernel
theorem dX10_news_15 : decode cX10_news 15 = .ok (.ifCond .eq 12, 3) := by decide +kernel
theorem dX10_news_18 : decode cX10_news 18 = .ok (.aload_n 0, 1) := by decide +kernel
theorem dX10_news_19 : decode cX10_news 19 = .ok (.iload_n 1, 1) := by decide +kernel
theorem dX10_news_20 : decode cX10_news 20 = .ok (.iload_n 2, 1) := by decide +kernel
theorem dX10_news_21 : decode cX10_news 21 = .ok (.invokevirtual 294, 3) := by decide +kernel
theorem dX10_news_24 : decode cX10_news 24 = .ok (.goto 5, 3) := by decide +kernel
theorem dX10_news_27 : decode cX10_news 27 = .ok (.bipush (-2), 2) := by decide +kernel
theorem dX10_news_29 : decode cX10_news 29 = .ok (.ireturn, 1) := by decide +kernel
theorem dX10_holdsOf_0 : decode cX10_holdsOf 0 = .ok (.aload_n 0, 1) := by decide +kernel
theorem dX10_holdsOf_1 : decode cX10_holdsOf 1 = .ok (.invokevirtual 297, 3) := by decide +kernel
theorem dX10_holdsOf_4 : decode cX10_holdsOf 4 = .ok (.istore_n 2, 1) := by decide +kernel
theorem dX10_holdsOf_5 : decode cX10_holdsOf 5 = .ok (.iload_n 2, 1) := by decide +kernel
theorem dX10_holdsOf_6 : decode cX10_holdsOf 6 = .ok (.iconst 2, 1) := by decide +kernel
theorem dX10_holdsOf_7 : decode cX10_holdsOf 7 = .ok (.idiv, 1) := by decide +kernel
theorem dX10_holdsOf_8 : decode cX10_holdsOf 8 = .ok (.iconst 1, 1) := by decide +kernel
theorem dX10_holdsOf_9 : decode cX10_holdsOf 9 = .ok (.if_icmp .ge 7, 3) := by decide +kernel
theorem dX10_holdsOf_12 : decode cX10_holdsOf 12 = .ok (.iconst 1, 1) := by decide +kernel
theorem dX10_holdsOf_13 : decode cX10_holdsOf 13 = .ok (.goto 6, 3) := by decide +kernel
theorem dX10_holdsOf_16 : decode cX10_holdsOf 16 = .ok (.iload_n 2, 1) := by decide +kernel
theorem dX10_holdsOf_17 : decode cX10_holdsOf 17 = .ok (.iconst 2, 1) := by decide +kernel
theorem dX10_holdsOf_18 : decode cX10_holdsOf 18 = .ok (.idiv, 1) := by decide +kernel
theorem dX10_holdsOf_19 : decode cX10_holdsOf 19 = .ok (.istore_n 3, 1) := by decide +kernel
theorem dX10_holdsOf_20 : decode cX10_holdsOf 20 = .ok (.aload_n 0, 1) := by decide +kernel
theorem dX10_holdsOf_21 : decode cX10_holdsOf 21 = .ok (.getfield 19, 3) := by decide +kernel
theorem dX10_holdsOf_24 : decode cX10_holdsOf 24 = .ok (.iload_n 1, 1) := by decide +kernel
theorem dX10_holdsOf_25 : decode cX10_holdsOf 25 = .ok (.iaload, 1) := by decide +kernel
theorem dX10_holdsOf_26 : decode cX10_holdsOf 26 = .ok (.tableswitch 73 1 6 #[38, 73, 42, 44, 73, 55], 38) := by decide +kernel
theorem dX10_holdsOf_64 : decode cX10_holdsOf 64 = .ok (.iconst 2, 1) := by decide +kernel
theorem dX10_holdsOf_65 : decode cX10_holdsOf 65 = .ok (.iload_n 2, 1) := by decide +kernel
theorem dX10_holdsOf_66 : decode cX10_holdsOf 66 = .ok (.imul, 1) := by decide +kernel
theorem dX10_holdsOf_67 : decode cX10_holdsOf 67 = .ok (.ireturn, 1) := by decide +kernel
theorem dX10_holdsOf_68 : decode cX10_holdsOf 68 = .ok (.iload_n 3, 1) := by decide +kernel
theorem dX10_holdsOf_69 : decode cX10_holdsOf 69 = .ok (.ireturn, 1) := by decide +kernel
theorem dX10_holdsOf_70 : decode cX10_holdsOf 70 = .ok (.iconst 2, 1) := by decide +kernel
theorem dX10_holdsOf_71 : decode cX10_holdsOf 71 = .ok (.iload_n 2, 1) := by decide +kernel
theorem dX10_holdsOf_72 : decode cX10_holdsOf 72 = .ok (.imul, 1) := by decide +kernel
theorem dX10_holdsOf_73 : decode cX10_holdsOf 73 = .ok (.aload_n 0, 1) := by decide +kernel
theorem dX10_holdsOf_74 : decode cX10_holdsOf 74 = .ok (.getfield 23, 3) := by decide +kernel
theorem dX10_holdsOf_77 : decode cX10_holdsOf 77 = .ok (.iload_n 1, 1) := by decide +kernel
theorem dX10_holdsOf_78 : decode cX10_holdsOf 78 = .ok (.iaload, 1) := by decide +kernel
theorem dX10_holdsOf_79 : decode cX10_holdsOf 79 = .ok (.iadd, 1) := by decide +kernel
theorem dX10_holdsOf_80 : decode cX10_holdsOf 80 = .ok (.ireturn, 1) := by decide +kernel
theorem dX10_holdsOf_81 : decode cX10_holdsOf 81 = .ok (.iload_n 3, 1) := by decide +kernel
theorem dX10_holdsOf_82 : decode cX10_holdsOf 82 = .ok (.aload_n 0, 1) := by decide +kernel
theorem dX10_holdsOf_83 : decode cX10_holdsOf 83 = .ok (.getfield 29, 3) := by decide +kernel
theorem dX10_holdsOf_86 : decode cX10_holdsOf 86 = .ok (.iconst 4, 1) := by decide +kernel
theorem dX10_holdsOf_87 : decode cX10_holdsOf 87 = .ok (.iload_n 1, 1) := by decide +kernel
theorem dX10_holdsOf_88 : decode cX10_holdsOf 88 = .ok (.imul, 1) := by decide +kernel
theorem dX10_holdsOf_89 : decode cX10_holdsOf 89 = .ok (.aload_n 0, 1) := by decide +kernel
theorem dX10_holdsOf_90 : decode cX10_holdsOf 90 = .ok (.getfield 16, 3) := by decide +kernel
theorem dX10_holdsOf_93 : decode cX10_holdsOf 93 = .ok (.iconst 4, 1) := by decide +kernel
theorem dX10_holdsOf_94 : decode cX10_holdsOf 94 = .ok (.irem, 1) := by decide +kernel
theorem dX10_holdsOf_95 : decode cX10_holdsOf 95 = .ok (.iadd, 1) := by decide +kernel
theorem dX10_holdsOf_96 : decode cX10_holdsOf 96 = .ok (.iaload, 1) := by decide +kernel
theorem dX10_holdsOf_97 : decode cX10_holdsOf 97 = .ok (.iadd, 1) := by decide +kernel
theorem dX10_holdsOf_98 : decode cX10_holdsOf 98 = .ok (.ireturn, 1) := by decide +kernel
theorem dX10_holdsOf_99 : decode cX10_holdsOf 99 = .ok (.iload_n 2, 1) := by decide +kernel
theorem dX10_holdsOf_100 : decode cX10_holdsOf 100 = .ok (.ireturn, 1) := by decide +kernel
theorem dX10_minds_0 : decode cX10_minds 0 = .ok (.aload_n 0, 1) := by decide +kernel
theorem dX10_minds_1 : decode cX10_minds 1 = .ok (.getfield 19, 3) := by decide +kernel
theorem dX10_minds_4 : decode cX10_minds 4 = .ok (.iload_n 1, 1) := by decide +kernel
theorem dX10_minds_5 : decode cX10_minds 5 = .ok (.iaload, 1) := by decide +kernel
theorem dX10_minds_6 : decode cX10_minds 6 = .ok (.iconst 5, 1) := by decide +kernel
theorem dX10_minds_7 : decode cX10_minds 7 = .ok (.if_icmp .ne 18, 3) := by decide +kernel
theorem dX10_minds_10 : decode cX10_minds 10 = .ok (.iload_n 2, 1) := by decide +kernel
theorem dX10_minds_11 : decode cX10_minds 11 = .ok (.aload_n 0, 1) := by decide +kernel
theorem dX10_minds_12 : decode cX10_minds 12 = .ok (.getfield 23, 3) := by decide +kernel
theorem dX10_minds_15 : decode cX10_minds 15 = .ok (.iload_n 1, 1) := by decide +kernel
theorem dX10_minds_16 : decode cX10_minds 16 = .ok (.iaload, 1) := by decide +kernel
theorem dX10_minds_17 : decode cX10_minds 17 = .ok (.iconst 2, 1) := by decide +kernel
theorem dX10_minds_18 : decode cX10_minds 18 = .ok (.iadd, 1) := by decide +kernel
theorem dX10_minds_19 : decode cX10_minds 19 = .ok (.irem, 1) := by decide +kernel
theorem dX10_minds_20 : decode cX10_minds 20 = .ok (.ifCond .ne 5, 3) := by decide +kernel
theorem dX10_minds_23 : decode cX10_minds 23 = .ok (.iconst 0, 1) := by decide +kernel
theorem dX10_minds_24 : decode cX10_minds 24 = .ok (.ireturn, 1) := by decide +kernel
theorem dX10_minds_25 : decode cX10_minds 25 = .ok (.aload_n 0, 1) := by decide +kernel
theorem dX10_minds_26 : decode cX10_minds 26 = .ok (.getfield 19, 3) := by decide +kernel
theorem dX10_minds_29 : decode cX10_minds 29 = .ok (.iload_n 1, 1) := by decide +kernel
theorem dX10_minds_30 : decode cX10_minds 30 = .ok (.iaload, 1) := by decide +kernel
theorem dX10_minds_31 : decode cX10_minds 31 = .ok (.iconst 2, 1) := by decide +kernel
theorem dX10_minds_32 : decode cX10_minds 32 = .ok (.if_icmp .eq 13, 3) := by decide +kernel
theorem dX10_minds_35 : decode cX10_minds 35 = .ok (.aload_n 0, 1) := by decide +kernel
theorem dX10_minds_36 : decode cX10_minds 36 = .ok (.getfield 19, 3) := by decide +kernel
theorem dX10_minds_39 : decode cX10_minds 39 = .ok (.iload_n 1, 1) := by decide +kernel
theorem dX10_minds_40 : decode cX10_minds 40 = .ok (.iaload, 1) := by decide +kernel
theorem dX10_minds_41 : decode cX10_minds 41 = .ok (.iconst 5, 1) := by decide +kernel
theorem dX10_minds_42 : decode cX10_minds 42 = .ok (.if_icmp .ne 24, 3) := by decide +kernel
theorem dX10_minds_45 : decode cX10_minds 45 = .ok (.aload_n 0, 1) := by decide +kernel
theorem dX10_minds_46 : decode cX10_minds 46 = .ok (.iload_n 1, 1) := by decide +kernel
theorem dX10_minds_47 : decode cX10_minds 47 = .ok (.iload_n 2, 1) := by decide +kernel
theorem dX10_minds_48 : decode cX10_minds 48 = .ok (.invokevirtual 294, 3) := by decide +kernel
theorem dX10_minds_51 : decode cX10_minds 51 = .ok (.aload_n 0, 1) := by decide +kernel
theorem dX10_minds_52 : decode cX10_minds 52 = .ok (.getfield 23, 3) := by decide +kernel
theorem dX10_minds_55 : decode cX10_minds 55 = .ok (.iload_n 1, 1) := by decide +kernel
theorem dX10_minds_56 : decode cX10_minds 56 = .ok (.iaload, 1) := by decide +kernel
theorem dX10_minds_57 : decode cX10_minds 57 = .ok (.iconst 3, 1) := by decide +kernel
theorem dX10_minds_58 : decode cX10_minds 58 = .ok (.iadd, 1) := by decide +kernel
theorem dX10_minds_59 : decode cX10_minds 59 = .ok (.if_icmp .le 7, 3) := by decide +kernel
theorem dX10_minds_62 : decode cX10_minds 62 = .ok (.iconst 1, 1) := by decide +kernel
theorem dX10_minds_63 : decode cX10_minds 63 = .ok (.goto 4, 3) := by decide +kernel
theorem dX10_minds_66 : decode cX10_minds 66 = .ok (.iconst 0, 1) := by decide +kernel
theorem dX10_minds_67 : decode cX10_minds 67 = .ok (.ireturn, 1) := by decide +kernel
theorem dX10_isUp_0 : decode cX10_isUp 0 = .ok (.aload_n 0, 1) := by decide +kernel
theorem dX10_isUp_1 : decode cX10_isUp 1 = .ok (.getfield 26, 3) := by decide +kernel
theorem dX10_isUp_4 : decode cX10_isUp 4 = .ok (.iload_n 1, 1) := by decide +kernel
theorem dX10_isUp_5 : decode cX10_isUp 5 = .ok (.iaload, 1) := by decide +kernel
theorem dX10_isUp_6 : decode cX10_isUp 6 = .ok (.aload_n 0, 1) := by decide +kernel
theorem dX10_isUp_7 : decode cX10_isUp 7 = .ok (.getfield 16, 3) := by decide +kernel
theorem dX10_isUp_10 : decode cX10_isUp 10 = .ok (.if_icmp .ne 7, 3) := by decide +kernel
theorem dX10_isUp_13 : decode cX10_isUp 13 = .ok (.iconst 1, 1) := by decide +kernel
theorem dX10_isUp_14 : decode cX10_isUp 14 = .ok (.goto 4, 3) := by decide +kernel
theorem dX10_isUp_17 : decode cX10_isUp 17 = .ok (.iconst 0, 1) := by decide +kernel
theorem dX10_isUp_18 : decode cX10_isUp 18 = .ok (.ireturn, 1) := by decide +kernel
theorem dX10_upMany_0 : decode cX10_upMany 0 = .ok (.iconst 0, 1) := by decide +kernel
theorem dX10_upMany_1 : decode cX10_upMany 1 = .ok (.istore_n 1, 1) := by decide +kernel
theorem dX10_upMany_2 : decode cX10_upMany 2 = .ok (.iconst 0, 1) := by decide +kernel
theorem dX10_upMany_3 : decode cX10_upMany 3 = .ok (.istore_n 2, 1) := by decide +kernel
theorem dX10_upMany_4 : decode cX10_upMany 4 = .ok (.iload_n 2, 1) := by decide +kernel
theorem dX10_upMany_5 : decode cX10_upMany 5 = .ok (.aload_n 0, 1) := by decide +kernel
theorem dX10_upMany_6 : decode cX10_upMany 6 = .ok (.getfield 7, 3) := by decide +kernel
theorem dX10_upMany_9 : decode cX10_upMany 9 = .ok (.if_icmp .ge 25, 3) := by decide +kernel
theorem dX10_upMany_12 : decode cX10_upMany 12 = .ok (.iload_n 1, 1) := by decide +kernel
theorem dX10_upMany_13 : decode cX10_upMany 13 = .ok (.aload_n 0, 1) := by decide +kernel
theorem dX10_upMany_14 : decode cX10_upMany 14 = .ok (.iload_n 2, 1) := by decide +kernel
theorem dX10_upMany_15 : decode cX10_upMany 15 = .ok (.invokevirtual 300, 3) := by decide +kernel
theorem dX10_upMany_18 : decode cX10_upMany 18 = .ok (.ifCond .eq 7, 3) := by decide +kernel
theorem dX10_upMany_21 : decode cX10_upMany 21 = .ok (.iconst 1, 1) := by decide +kernel
theorem dX10_upMany_22 : decode cX10_upMany 22 = .ok (.goto 4, 3) := by decide +kernel
theorem dX10_upMany_25 : decode cX10_upMany 25 = .ok (.iconst 0, 1) := by decide +kernel
theorem dX10_upMany_26 : decode cX10_upMany 26 = .ok (.iadd, 1) := by decide +kernel
theorem dX10_upMany_27 : decode cX10_upMany 27 = .ok (.istore_n 1, 1) := by decide +kernel
theorem dX10_upMany_28 : decode cX10_upMany 28 = .ok (.iinc 2 1, 3) := by decide +kernel
theorem dX10_upMany_31 : decode cX10_upMany 31 = .ok (.goto (-27), 3) := by decide +kernel
theorem dX10_upMany_34 : decode cX10_upMany 34 = .ok (.iload_n 1, 1) := by decide +kernel
theorem dX10_upMany_35 : decode cX10_upMany 35 = .ok (.ireturn, 1) := by decide +kernel
theorem dX10_left_0 : decode cX10_left 0 = .ok (.iconst 0, 1) := by decide +kernel
theorem dX10_left_1 : decode cX10_left 1 = .ok (.istore_n 2, 1) := by decide +kernel
theorem dX10_left_2 : decode cX10_left 2 = .ok (.aload_n 0, 1) := by decide +kernel
theorem dX10_left_3 : decode cX10_left 3 = .ok (.getfield 26, 3) := by decide +kernel
theorem dX10_left_6 : decode cX10_left 6 = .ok (.iload_n 1, 1) := by decide +kernel
theorem dX10_left_7 : decode cX10_left 7 = .ok (.iaload, 1) := by decide +kernel
theorem dX10_left_8 : decode cX10_left 8 = .ok (.istore_n 3, 1) := by decide +kernel
theorem dX10_left_9 : decode cX10_left 9 = .ok (.iload_n 3, 1) := by decide +kernel
theorem dX10_left_10 : decode cX10_left 10 = .ok (.aload_n 0, 1) := by decide +kernel
theorem dX10_left_11 : decode cX10_left 11 = .ok (.getfield 16, 3) := by decide +kernel
theorem dX10_left_14 : decode cX10_left 14 = .ok (.if_icmp .ge 18, 3) := by decide +kernel
theorem dX10_left_17 : decode cX10_left 17 = .ok (.iload_n 2, 1) := by decide +kernel
theorem dX10_left_18 : decode cX10_left 18 = .ok (.aload_n 0, 1) := by decide +kernel
theorem dX10_left_19 : decode cX10_left 19 = .ok (.iload_n 1, 1) := by decide +kernel
theorem dX10_left_20 : decode cX10_left 20 = .ok (.iload_n 3, 1) := by decide +kernel
theorem dX10_left_21 : decode cX10_left 21 = .ok (.invokevirtual 294, 3) := by decide +kernel
theorem dX10_left_24 : decode cX10_left 24 = .ok (.iadd, 1) := by decide +kernel
theorem dX10_left_25 : decode cX10_left 25 = .ok (.istore_n 2, 1) := by decide +kernel
theorem dX10_left_26 : decode cX10_left 26 = .ok (.iinc 3 1, 3) := by decide +kernel
theorem dX10_left_29 : decode cX10_left 29 = .ok (.goto (-20), 3) := by decide +kernel
theorem dX10_left_32 : decode cX10_left 32 = .ok (.iload_n 2, 1) := by decide +kernel
theorem dX10_left_33 : decode cX10_left 33 = .ok (.ireturn, 1) := by decide +kernel
theorem dX10_allLeft_0 : decode cX10_allLeft 0 = .ok (.iconst 0, 1) := by decide +kernel
theorem dX10_allLeft_1 : decode cX10_allLeft 1 = .ok (.istore_n 1, 1) := by decide +kernel
theorem dX10_allLeft_2 : decode cX10_allLeft 2 = .ok (.iconst 0, 1) := by decide +kernel
theorem dX10_allLeft_3 : decode cX10_allLeft 3 = .ok (.istore_n 2, 1) := by decide +kernel
theorem dX10_allLeft_4 : decode cX10_allLeft 4 = .ok (.iload_n 2, 1) := by decide +kernel
theorem dX10_allLeft_5 : decode cX10_allLeft 5 = .ok (.aload_n 0, 1) := by decide +kernel
theorem dX10_allLeft_6 : decode cX10_allLeft 6 = .ok (.getfield 7, 3) := by decide +kernel
theorem dX10_allLeft_9 : decode cX10_allLeft 9 = .ok (.if_icmp .ge 17, 3) := by decide +kernel
theorem dX10_allLeft_12 : decode cX10_allLeft 12 = .ok (.iload_n 1, 1) := by decide +kernel
theorem dX10_allLeft_13 : decode cX10_allLeft 13 = .ok (.aload_n 0, 1) := by decide +kernel
theorem dX10_allLeft_14 : decode cX10_allLeft 14 = .ok (.iload_n 2, 1) := by decide +kernel
theorem dX10_allLeft_15 : decode cX10_allLeft 15 = .ok (.invokevirtual 303, 3) := by decide +kernel
theorem dX10_allLeft_18 : decode cX10_allLeft 18 = .ok (.iadd, 1) := by decide +kernel
theorem dX10_allLeft_19 : decode cX10_allLeft 19 = .ok (.istore_n 1, 1) := by decide +kernel
theorem dX10_allLeft_20 : decode cX10_allLeft 20 = .ok (.iinc 2 1, 3) := by decide +kernel
theorem dX10_allLeft_23 : decode cX10_allLeft 23 = .ok (.goto (-19), 3) := by decide +kernel
theorem dX10_allLeft_26 : decode cX10_allLeft 26 = .ok (.iload_n 1, 1) := by decide +kernel
theorem dX10_allLeft_27 : decode cX10_allLeft 27 = .ok (.ireturn, 1) := by decide +kernel
theorem dX10_minded_0 : decode cX10_minded 0 = .ok (.aload_n 0, 1) := by decide +kernel
theorem dX10_minded_1 : decode cX10_minded 1 = .ok (.aload_n 0, 1) := by decide +kernel
theorem dX10_minded_2 : decode cX10_minded 2 = .ok (.getfield 13, 3) := by decide +kernel
theorem dX10_minded_5 : decode cX10_minded 5 = .ok (.iload_n 1, 1) := by decide +kernel
theorem dX10_minded_6 : decode cX10_minded 6 = .ok (.invokevirtual 224, 3) := by decide +kernel
theorem dX10_minded_9 : decode cX10_minded 9 = .ok (.ifCond .eq 6, 3) := by decide +kernel
theorem dX10_minded_12 : decode cX10_minded 12 = .ok (.bipush (-5), 2) := by decide +kernel
theorem dX10_minded_14 : decode cX10_minded 14 = .ok (.ireturn, 1) := by decide +kernel
theorem dX10_minded_15 : decode cX10_minded 15 = .ok (.aload_n 0, 1) := by decide +kernel
theorem dX10_minded_16 : decode cX10_minded 16 = .ok (.getfield 26, 3) := by decide +kernel
theorem dX10_minded_19 : decode cX10_minded 19 = .ok (.iload_n 1, 1) := by decide +kernel
theorem dX10_minded_20 : decode cX10_minded 20 = .ok (.iaload, 1) := by decide +kernel
theorem dX10_minded_21 : decode cX10_minded 21 = .ok (.istore_n 2, 1) := by decide +kernel
theorem dX10_minded_22 : decode cX10_minded 22 = .ok (.iload_n 2, 1) := by decide +kernel
theorem dX10_minded_23 : decode cX10_minded 23 = .ok (.aload_n 0, 1) := by decide +kernel
theorem dX10_minded_24 : decode cX10_minded 24 = .ok (.getfield 16, 3) := by decide +kernel
theorem dX10_minded_27 : decode cX10_minded 27 = .ok (.if_icmp .ge 20, 3) := by decide +kernel
theorem dX10_minded_30 : decode cX10_minded 30 = .ok (.aload_n 0, 1) := by decide +kernel
theorem dX10_minded_31 : decode cX10_minded 31 = .ok (.iload_n 1, 1) := by decide +kernel
theorem dX10_minded_32 : decode cX10_minded 32 = .ok (.iload_n 2, 1) := by decide +kernel
theorem dX10_minded_33 : decode cX10_minded 33 = .ok (.invokevirtual 306, 3) := by decide +kernel
theorem dX10_minded_36 : decode cX10_minded 36 = .ok (.ifCond .eq 5, 3) := by decide +kernel
theorem dX10_minded_39 : decode cX10_minded 39 = .ok (.iload_n 2, 1) := by decide +kernel
theorem dX10_minded_40 : decode cX10_minded 40 = .ok (.ireturn, 1) := by decide +kernel
theorem dX10_minded_41 : decode cX10_minded 41 = .ok (.iinc 2 1, 3) := by decide +kernel
theorem dX10_minded_44 : decode cX10_minded 44 = .ok (.goto (-22), 3) := by decide +kernel
theorem dX10_minded_47 : decode cX10_minded 47 = .ok (.bipush (-5), 2) := by decide +kernel
theorem dX10_minded_49 : decode cX10_minded 49 = .ok (.ireturn, 1) := by decide +kernel
theorem dX10_goNight_0 : decode cX10_goNight 0 = .ok (.iconst 0, 1) := by decide +kernel
theorem dX10_goNight_1 : decode cX10_goNight 1 = .ok (.istore_n 1, 1) := by decide +kernel
theorem dX10_goNight_2 : decode cX10_goNight 2 = .ok (.iload_n 1, 1) := by decide +kernel
theorem dX10_goNight_3 : decode cX10_goNight 3 = .ok (.aload_n 0, 1) := by decide +kernel
theorem dX10_goNight_4 : decode cX10_goNight 4 = .ok (.getfield 7, 3) := by decide +kernel
theorem dX10_goNight_7 : decode cX10_goNight 7 = .ok (.if_icmp .ge 31, 3) := by decide +kernel
theorem dX10_goNight_10 : decode cX10_goNight 10 = .ok (.aload_n 0, 1) := by decide +kernel
theorem dX10_goNight_11 : decode cX10_goNight 11 = .ok (.getfield 26, 3) := by decide +kernel
theorem dX10_goNight_14 : decode cX10_goNight 14 = .ok (.iload_n 1, 1) := by decide +kernel
theorem dX10_goNight_15 : decode cX10_goNight 15 = .ok (.dup2, 1) := by decide +kernel
theorem dX10_goNight_16 : decode cX10_goNight 16 = .ok (.iaload, 1) := by decide +kernel
theorem dX10_goNight_17 : decode cX10_goNight 17 = .ok (.aload_n 0, 1) := by decide +kernel
theorem dX10_goNight_18 : decode cX10_goNight 18 = .ok (.iload_n 1, 1) := by decide +kernel
theorem dX10_goNight_19 : decode cX10_goNight 19 = .ok (.invokevirtual 300, 3) := by decide +kernel
theorem dX10_goNight_22 : decode cX10_goNight 22 = .ok (.ifCond .eq 7, 3) := by decide +kernel
theorem dX10_goNight_25 : decode cX10_goNight 25 = .ok (.iconst 1, 1) := by decide +kernel
theorem dX10_goNight_26 : decode cX10_goNight 26 = .ok (.goto 4, 3) := by decide +kernel
theorem dX10_goNight_29 : decode cX10_goNight 29 = .ok (.iconst 0, 1) := by decide +kernel
theorem dX10_goNight_30 : decode cX10_goNight 30 = .ok (.iadd, 1) := by decide +kernel
theorem dX10_goNight_31 : decode cX10_goNight 31 = .ok (.iastore, 1) := by decide +kernel
theorem dX10_goNight_32 : decode cX10_goNight 32 = .ok (.iinc 1 1, 3) := by decide +kernel
theorem dX10_goNight_35 : decode cX10_goNight 35 = .ok (.goto (-33), 3) := by decide +kernel
theorem dX10_goNight_38 : decode cX10_goNight 38 = .ok (.aload_n 0, 1) := by decide +kernel
theorem dX10_goNight_39 : decode cX10_goNight 39 = .ok (.dup, 1) := by decide +kernel
theorem dX10_goNight_40 : decode cX10_goNight 40 = .ok (.getfield 16, 3) := by decide +kernel
theorem dX10_goNight_43 : decode cX10_goNight 43 = .ok (.iconst 1, 1) := by decide +kernel
theorem dX10_goNight_44 : decode cX10_goNight 44 = .ok (.iadd, 1) := by decide +kernel
theorem dX10_goNight_45 : decode cX10_goNight 45 = .ok (.putfield 16, 3) := by decide +kernel
theorem dX10_goNight_48 : decode cX10_goNight 48 = .ok (.return_, 1) := by decide +kernel
theorem dX10_goEvening_0 : decode cX10_goEvening 0 = .ok (.iconst 0, 1) := by decide +kernel
theorem dX10_goEvening_1 : decode cX10_goEvening 1 = .ok (.istore_n 2, 1) := by decide +kernel
theorem dX10_goEvening_2 : decode cX10_goEvening 2 = .ok (.iconst 0, 1) := by decide +kernel
theorem dX10_goEvening_3 : decode cX10_goEvening 3 = .ok (.istore_n 3, 1) := by decide +kernel
theorem dX10_goEvening_4 : decode cX10_goEvening 4 = .ok (.aload_n 0, 1) := by decide +kernel
theorem dX10_goEvening_5 : decode cX10_goEvening 5 = .ok (.iload_n 1, 1) := by decide +kernel
theorem dX10_goEvening_6 : decode cX10_goEvening 6 = .ok (.invokevirtual 309, 3) := by decide +kernel
theorem dX10_goEvening_9 : decode cX10_goEvening 9 = .ok (.istore 4, 2) := by decide +kernel
theorem dX10_goEvening_11 : decode cX10_goEvening 11 = .ok (.iload_n 2, 1) := by decide +kernel
theorem dX10_goEvening_12 : decode cX10_goEvening 12 = .ok (.bipush 30, 2) := by decide +kernel
theorem dX10_goEvening_14 : decode cX10_goEvening 14 = .ok (.if_icmp .ge 107, 3) := by decide +kernel
theorem dX10_goEvening_17 : decode cX10_goEvening 17 = .ok (.aload_n 0, 1) := by decide +kernel
theorem dX10_goEvening_18 : decode cX10_goEvening 18 = .ok (.getfield 26, 3) := by decide +kernel
theorem dX10_goEvening_21 : decode cX10_goEvening 21 = .ok (.iload_n 1, 1) := by decide +kernel
theorem dX10_goEvening_22 : decode cX10_goEvening 22 = .ok (.iaload, 1) := by decide +kernel
theorem dX10_goEvening_23 : decode cX10_goEvening 23 = .ok (.aload_n 0, 1) := by decide +kernel
theorem dX10_goEvening_24 : decode cX10_goEvening 24 = .ok (.getfield 16, 3) := by decide +kernel
theorem dX10_goEvening_27 : decode cX10_goEvening 27 = .ok (.if_icmp .ge 94, 3) := by decide +kernel
theorem dX10_goEvening_30 : decode cX10_goEvening 30 = .ok (.aload_n 0, 1) := by decide +kernel
theorem dX10_goEvening_31 : decode cX10_goEvening 31 = .ok (.aload_n 0, 1) := by decide +kernel
theorem dX10_goEvening_32 : decode cX10_goEvening 32 = .ok (.getfield 13, 3) := by decide +kernel
theorem dX10_goEvening_35 : decode cX10_goEvening 35 = .ok (.iload_n 1, 1) := by decide +kernel
theorem dX10_goEvening_36 : decode cX10_goEvening 36 = .ok (.invokevirtual 224, 3) := by decide +kernel
theorem dX10_goEvening_39 : decode cX10_goEvening 39 = .ok (.ifCond .ne 82, 3) := by decide +kernel
theorem dX10_goEvening_42 : decode cX10_goEvening 42 = .ok (.aload_n 0, 1) := by decide +kernel
theorem dX10_goEvening_43 : decode cX10_goEvening 43 = .ok (.iload_n 1, 1) := by decide +kernel
theorem dX10_goEvening_44 : decode cX10_goEvening 44 = .ok (.aload_n 0, 1) := by decide +kernel
theorem dX10_goEvening_45 : decode cX10_goEvening 45 = .ok (.getfield 26, 3) := by decide +kernel
theorem dX10_goEvening_48 : decode cX10_goEvening 48 = .ok (.iload_n 1, 1) := by decide +kernel
theorem dX10_goEvening_49 : decode cX10_goEvening 49 = .ok (.iaload, 1) := by decide +kernel
theorem dX10_goEvening_50 : decode cX10_goEvening 50 = .ok (.invokevirtual 294, 3) := by decide +kernel
theorem dX10_goEvening_53 : decode cX10_goEvening 53 = .ok (.istore 5, 2) := by decide +kernel
theorem dX10_goEvening_55 : decode cX10_goEvening 55 = .ok (.aload_n 0, 1) := by decide +kernel
theorem dX10_goEvening_56 : decode cX10_goEvening 56 = .ok (.iload_n 1, 1) := by decide +kernel
theorem dX10_goEvening_57 : decode cX10_goEvening 57 = .ok (.aload_n 0, 1) := by decide +kernel
theorem dX10_goEvening_58 : decode cX10_goEvening 58 = .ok (.getfield 26, 3) := by decide +kernel
theorem dX10_goEvening_61 : decode cX10_goEvening 61 = .ok (.iload_n 1, 1) := by decide +kernel
theorem dX10_goEvening_62 : decode cX10_goEvening 62 = .ok (.iaload, 1) := by decide +kernel
theorem dX10_goEvening_63 : decode cX10_goEvening 63 = .ok (.invokevirtual 306, 3) := by decide +kernel
theorem dX10_goEvening_66 : decode cX10_goEvening 66 = .ok (.ifCond .eq 12, 3) := by decide +kernel
theorem dX10_goEvening_69 : decode cX10_goEvening 69 = .ok (.aload_n 0, 1) := by decide +kernel
theorem dX10_goEvening_70 : decode cX10_goEvening 70 = .ok (.iload_n 1, 1) := by decide +kernel
theorem dX10_goEvening_71 : decode cX10_goEvening 71 = .ok (.iconst 1, 1) := by decide +kernel
theorem dX10_goEvening_72 : decode cX10_goEvening 72 = .ok (.invokevirtual 216, 3) := by decide +kernel
theorem dX10_goEvening_75 : decode cX10_goEvening 75 = .ok (.goto 43, 3) := by decide +kernel
theorem dX10_goEvening_78 : decode cX10_goEvening 78 = .ok (.iload_n 2, 1) := by decide +kernel
theorem dX10_goEvening_79 : decode cX10_goEvening 79 = .ok (.ifCond .eq 12, 3) := by decide +kernel
theorem dX10_goEvening_82 : decode cX10_goEvening 82 = .ok (.iload_n 3, 1) := by decide +kernel
theorem dX10_goEvening_83 : decode cX10_goEvening 83 = .ok (.iload 5, 2) := by decide +kernel
theorem dX10_goEvening_85 : decode cX10_goEvening 85 = .ok (.iadd, 1) := by decide +kernel
theorem dX10_goEvening_86 : decode cX10_goEvening 86 = .ok (.iload 4, 2) := by decide +kernel
theorem dX10_goEvening_88 : decode cX10_goEvening 88 = .ok (.if_icmp .gt 24, 3) := by decide +kernel
theorem dX10_goEvening_91 : decode cX10_goEvening 91 = .ok (.iload_n 3, 1) := by decide +kernel
theorem dX10_goEvening_92 : decode cX10_goEvening 92 = .ok (.iload 5, 2) := by decide +kernel
theorem dX10_goEvening_94 : decode cX10_goEvening 94 = .ok (.iadd, 1) := by decide +kernel
theorem dX10_goEvening_95 : decode cX10_goEvening 95 = .ok (.istore_n 3, 1) := by decide +kernel
theorem dX10_goEvening_96 : decode cX10_goEvening 96 = .ok (.iinc 2 1, 3) := by decide +kernel
theorem dX10_goEvening_99 : decode cX10_goEvening 99 = .ok (.aload_n 0, 1) := by decide +kernel
theorem dX10_goEvening_100 : decode cX10_goEvening 100 = .ok (.getfield 26, 3) := by decide +kernel
theorem dX10_goEvening_103 : decode cX10_goEvening 103 = .ok (.iload_n 1, 1) := by decide +kernel
theorem dX10_goEvening_104 : decode cX10_goEvening 104 = .ok (.dup2, 1) := by decide +kernel
theorem dX10_goEvening_105 : decode cX10_goEvening 105 = .ok (.iaload, 1) := by decide +kernel
theorem dX10_goEvening_106 : decode cX10_goEvening 106 = .ok (.iconst 1, 1) := by decide +kernel
theorem dX10_goEvening_107 : decode cX10_goEvening 107 = .ok (.iadd, 1) := by decide +kernel
theorem dX10_goEvening_108 : decode cX10_goEvening 108 = .ok (.iastore, 1) := by decide +kernel
theorem dX10_goEvening_109 : decode cX10_goEvening 109 = .ok (.goto 9, 3) := by decide +kernel
theorem dX10_goEvening_112 : decode cX10_goEvening 112 = .ok (.aload_n 0, 1) := by decide +kernel
theorem dX10_goEvening_113 : decode cX10_goEvening 113 = .ok (.invokevirtual 312, 3) := by decide +kernel
theorem dX10_goEvening_116 : decode cX10_goEvening 116 = .ok (.iload_n 2, 1) := by decide +kernel
theorem dX10_goEvening_117 : decode cX10_goEvening 117 = .ok (.ireturn, 1) := by decide +kernel
theorem dX10_goEvening_118 : decode cX10_goEvening 118 = .ok (.goto (-107), 3) := by decide +kernel
theorem dX10_goEvening_121 : decode cX10_goEvening 121 = .ok (.aload_n 0, 1) := by decide +kernel
theorem dX10_goEvening_122 : decode cX10_goEvening 122 = .ok (.invokevirtual 312, 3) := by decide +kernel
theorem dX10_goEvening_125 : decode cX10_goEvening 125 = .ok (.iload_n 2, 1) := by decide +kernel
theorem dX10_goEvening_126 : decode cX10_goEvening 126 = .ok (.ireturn, 1) := by decide +kernel
theorem dX10_tell_0 : decode cX10_tell 0 = .ok (.aload_n 0, 1) := by decide +kernel
theorem dX10_tell_1 : decode cX10_tell 1 = .ok (.iload_n 1, 1) := by decide +kernel
theorem dX10_tell_2 : decode cX10_tell 2 = .ok (.invokevirtual 220, 3) := by decide +kernel
theorem dX10_tell_5 : decode cX10_tell 5 = .ok (.ifCond .ne 5, 3) := by decide +kernel
theorem dX10_tell_8 : decode cX10_tell 8 = .ok (.iconst (-1), 1) := by decide +kernel
theorem dX10_tell_9 : decode cX10_tell 9 = .ok (.ireturn, 1) := by decide +kernel
theorem dX10_tell_10 : decode cX10_tell 10 = .ok (.aload_n 0, 1) := by decide +kernel
theorem dX10_tell_11 : decode cX10_tell 11 = .ok (.getfield 16, 3) := by decide +kernel
theorem dX10_tell_14 : decode cX10_tell 14 = .ok (.sipush 9999, 3) := by decide +kernel
theorem dX10_tell_17 : decode cX10_tell 17 = .ok (.if_icmp .ne 8, 3) := by decide +kernel
theorem dX10_tell_20 : decode cX10_tell 20 = .ok (.bipush (-3), 2) := by decide +kernel
theorem dX10_tell_22 : decode cX10_tell 22 = .ok (.goto 8, 3) := by decide +kernel
theorem dX10_tell_25 : decode cX10_tell 25 = .ok (.aload_n 0, 1) := by decide +kernel
theorem dX10_tell_26 : decode cX10_tell 26 = .ok (.iload_n 1, 1) := by decide +kernel
theorem dX10_tell_27 : decode cX10_tell 27 = .ok (.invokevirtual 315, 3) := by decide +kernel
theorem dX10_tell_30 : decode cX10_tell 30 = .ok (.ireturn, 1) := by decide +kernel
theorem dX10_pass_0 : decode cX10_pass 0 = .ok (.aload_n 0, 1) := by decide +kernel
theorem dX10_pass_1 : decode cX10_pass 1 = .ok (.iload_n 1, 1) := by decide +kernel
theorem dX10_pass_2 : decode cX10_pass 2 = .ok (.invokevirtual 318, 3) := by decide +kernel
theorem dX10_pass_5 : decode cX10_pass 5 = .ok (.ifCond .ne 6, 3) := by decide +kernel
theorem dX10_pass_8 : decode cX10_pass 8 = .ok (.bipush (-2), 2) := by decide +kernel
theorem dX10_pass_10 : decode cX10_pass 10 = .ok (.ireturn, 1) := by decide +kernel
theorem dX10_pass_11 : decode cX10_pass 11 = .ok (.aload_n 0, 1) := by decide +kernel
theorem dX10_pass_12 : decode cX10_pass 12 = .ok (.getfield 16, 3) := by decide +kernel
theorem dX10_pass_15 : decode cX10_pass 15 = .ok (.iload_n 1, 1) := by decide +kernel
theorem dX10_pass_16 : decode cX10_pass 16 = .ok (.iadd, 1) := by decide +kernel
theorem dX10_pass_17 : decode cX10_pass 17 = .ok (.sipush 9999, 3) := by decide +kernel
theorem dX10_pass_20 : decode cX10_pass 20 = .ok (.if_icmp .le 6, 3) := by decide +kernel
theorem dX10_pass_23 : decode cX10_pass 23 = .ok (.bipush (-3), 2) := by decide +kernel
theorem dX10_pass_25 : decode cX10_pass 25 = .ok (.ireturn, 1) := by decide +kernel
theorem dX10_pass_26 : decode cX10_pass 26 = .ok (.iconst 0, 1) := by decide +kernel
theorem dX10_pass_27 : decode cX10_pass 27 = .ok (.istore_n 2, 1) := by decide +kernel
theorem dX10_pass_28 : decode cX10_pass 28 = .ok (.iload_n 2, 1) := by decide +kernel
theorem dX10_pass_29 : decode cX10_pass 29 = .ok (.iload_n 1, 1) := by decide +kernel
theorem dX10_pass_30 : decode cX10_pass 30 = .ok (.if_icmp .ge 13, 3) := by decide +kernel
theorem dX10_pass_33 : decode cX10_pass 33 = .ok (.aload_n 0, 1) := by decide +kernel
theorem dX10_pass_34 : decode cX10_pass 34 = .ok (.invokevirtual 312, 3) := by decide +kernel
theorem dX10_pass_37 : decode cX10_pass 37 = .ok (.iinc 2 1, 3) := by decide +kernel
theorem dX10_pass_40 : decode cX10_pass 40 = .ok (.goto (-12), 3) := by decide +kernel
theorem dX10_pass_43 : decode cX10_pass 43 = .ok (.aload_n 0, 1) := by decide +kernel
theorem dX10_pass_44 : decode cX10_pass 44 = .ok (.getfield 16, 3) := by decide +kernel
theorem dX10_pass_47 : decode cX10_pass 47 = .ok (.ireturn, 1) := by decide +kernel
theorem dX10_save_0 : decode cX10_save 0 = .ok (.aload_n 0, 1) := by decide +kernel
theorem dX10_save_1 : decode cX10_save 1 = .ok (.aload_n 0, 1) := by decide +kernel
theorem dX10_save_2 : decode cX10_save 2 = .ok (.getfield 13, 3) := by decide +kernel
theorem dX10_save_5 : decode cX10_save 5 = .ok (.putfield 97, 3) := by decide +kernel
theorem dX10_save_8 : decode cX10_save 8 = .ok (.aload_n 0, 1) := by decide +kernel
theorem dX10_save_9 : decode cX10_save 9 = .ok (.aload_n 0, 1) := by decide +kernel
theorem dX10_save_10 : decode cX10_save 10 = .ok (.getfield 16, 3) := by decide +kernel
theorem dX10_save_13 : decode cX10_save 13 = .ok (.putfield 100, 3) := by decide +kernel
theorem dX10_save_16 : decode cX10_save 16 = .ok (.iconst 0, 1) := by decide +kernel
theorem dX10_save_17 : decode cX10_save 17 = .ok (.istore_n 1, 1) := by decide +kernel
theorem dX10_save_18 : decode cX10_save 18 = .ok (.iload_n 1, 1) := by decide +kernel
theorem dX10_save_19 : decode cX10_save 19 = .ok (.bipush 6, 2) := by decide +kernel
theorem dX10_save_21 : decode cX10_save 21 = .ok (.if_icmp .ge 21, 3) := by decide +kernel
theorem dX10_save_24 : decode cX10_save 24 = .ok (.aload_n 0, 1) := by decide +kernel
theorem dX10_save_25 : decode cX10_save 25 = .ok (.getfield 103, 3) := by decide +kernel
theorem dX10_save_28 : decode cX10_save 28 = .ok (.iload_n 1, 1) := by decide +kernel
theorem dX10_save_29 : decode cX10_save 29 = .ok (.aload_n 0, 1) := by decide +kernel
theorem dX10_save_30 : decode cX10_save 30 = .ok (.getfield 26, 3) := by decide +kernel
theorem dX10_save_33 : decode cX10_save 33 = .ok (.iload_n 1, 1) := by decide +kernel
theorem dX10_save_34 : decode cX10_save 34 = .ok (.iaload, 1) := by decide +kernel
theorem dX10_save_35 : decode cX10_save 35 = .ok (.iastore, 1) := by decide +kernel
theorem dX10_save_36 : decode cX10_save 36 = .ok (.iinc 1 1, 3) := by decide +kernel
theorem dX10_save_39 : decode cX10_save 39 = .ok (.goto (-21), 3) := by decide +kernel
theorem dX10_save_42 : decode cX10_save 42 = .ok (.return_, 1) := by decide +kernel
theorem dX10_putBack_0 : decode cX10_putBack 0 = .ok (.aload_n 0, 1) := by decide +kernel
theorem dX10_putBack_1 : decode cX10_putBack 1 = .ok (.aload_n 0, 1) := by decide +kernel
theorem dX10_putBack_2 : decode cX10_putBack 2 = .ok (.getfield 97, 3) := by decide +kernel
theorem dX10_putBack_5 : decode cX10_putBack 5 = .ok (.putfield 13, 3) := by decide +kernel
theorem dX10_putBack_8 : decode cX10_putBack 8 = .ok (.aload_n 0, 1) := by decide +kernel
theorem dX10_putBack_9 : decode cX10_putBack 9 = .ok (.aload_n 0, 1) := by decide +kernel
theorem dX10_putBack_10 : decode cX10_putBack 10 = .ok (.getfield 100, 3) := by decide +kernel
theorem dX10_putBack_13 : decode cX10_putBack 13 = .ok (.putfield 16, 3) := by decide +kernel
theorem dX10_putBack_16 : decode cX10_putBack 16 = .ok (.iconst 0, 1) := by decide +kernel
theorem dX10_putBack_17 : decode cX10_putBack 17 = .ok (.istore_n 1, 1) := by decide +kernel
theorem dX10_putBack_18 : decode cX10_putBack 18 = .ok (.iload_n 1, 1) := by decide +kernel
theorem dX10_putBack_19 : decode cX10_putBack 19 = .ok (.bipush 6, 2) := by decide +kernel
theorem dX10_putBack_21 : decode cX10_putBack 21 = .ok (.if_icmp .ge 21, 3) := by decide +kernel
theorem dX10_putBack_24 : decode cX10_putBack 24 = .ok (.aload_n 0, 1) := by decide +kernel
theorem dX10_putBack_25 : decode cX10_putBack 25 = .ok (.getfield 26, 3) := by decide +kernel
theorem dX10_putBack_28 : decode cX10_putBack 28 = .ok (.iload_n 1, 1) := by decide +kernel
theorem dX10_putBack_29 : decode cX10_putBack 29 = .ok (.aload_n 0, 1) := by decide +kernel
theorem dX10_putBack_30 : decode cX10_putBack 30 = .ok (.getfield 103, 3) := by decide +kernel
theorem dX10_putBack_33 : decode cX10_putBack 33 = .ok (.iload_n 1, 1) := by decide +kernel
theorem dX10_putBack_34 : decode cX10_putBack 34 = .ok (.iaload, 1) := by decide +kernel
theorem dX10_putBack_35 : decode cX10_putBack 35 = .ok (.iastore, 1) := by decide +kernel
theorem dX10_putBack_36 : decode cX10_putBack 36 = .ok (.iinc 1 1, 3) := by decide +kernel
theorem dX10_putBack_39 : decode cX10_putBack 39 = .ok (.goto (-21), 3) := by decide +kernel
theorem dX10_putBack_42 : decode cX10_putBack 42 = .ok (.return_, 1) := by decide +kernel
theorem dX10_whole__0 : decode cX10_whole_ 0 = .ok (.aload_n 0, 1) := by decide +kernel
theorem dX10_whole__1 : decode cX10_whole_ 1 = .ok (.invokevirtual 321, 3) := by decide +kernel
theorem dX10_whole__4 : decode cX10_whole_ 4 = .ok (.iconst 0, 1) := by decide +kernel
theorem dX10_whole__5 : decode cX10_whole_ 5 = .ok (.istore_n 2, 1) := by decide +kernel
theorem dX10_whole__6 : decode cX10_whole_ 6 = .ok (.iload_n 2, 1) := by decide +kernel
theorem dX10_whole__7 : decode cX10_whole_ 7 = .ok (.bipush 61, 2) := by decide +kernel
theorem dX10_whole__9 : decode cX10_whole_ 9 = .ok (.if_icmp .ge 23, 3) := by decide +kernel
theorem dX10_whole__12 : decode cX10_whole_ 12 = .ok (.aload_n 0, 1) := by decide +kernel
theorem dX10_whole__13 : decode cX10_whole_ 13 = .ok (.iload_n 1, 1) := by decide +kernel
theorem dX10_whole__14 : decode cX10_whole_ 14 = .ok (.invokevirtual 300, 3) := by decide +kernel
theorem dX10_whole__17 : decode cX10_whole_ 17 = .ok (.ifCond .ne 15, 3) := by decide +kernel
theorem dX10_whole__20 : decode cX10_whole_ 20 = .ok (.aload_n 0, 1) := by decide +kernel
theorem dX10_whole__21 : decode cX10_whole_ 21 = .ok (.iload_n 1, 1) := by decide +kernel
theorem dX10_whole__22 : decode cX10_whole_ 22 = .ok (.invokevirtual 315, 3) := by decide +kernel
theorem dX10_whole__25 : decode cX10_whole_ 25 = .ok (.pop, 1) := by decide +kernel
theorem dX10_whole__26 : decode cX10_whole_ 26 = .ok (.iinc 2 1, 3) := by decide +kernel
theorem dX10_whole__29 : decode cX10_whole_ 29 = .ok (.goto (-23), 3) := by decide +kernel
theorem dX10_whole__32 : decode cX10_whole_ 32 = .ok (.aload_n 0, 1) := by decide +kernel
theorem dX10_whole__33 : decode cX10_whole_ 33 = .ok (.invokevirtual 324, 3) := by decide +kernel
theorem dX10_whole__36 : decode cX10_whole_ 36 = .ok (.iload_n 2, 1) := by decide +kernel
theorem dX10_whole__37 : decode cX10_whole_ 37 = .ok (.bipush 61, 2) := by decide +kernel
theorem dX10_whole__39 : decode cX10_whole_ 39 = .ok (.if_icmp .ge 7, 3) := by decide +kernel
theorem dX10_whole__42 : decode cX10_whole_ 42 = .ok (.iload_n 2, 1) := by decide +kernel
theorem dX10_whole__43 : decode cX10_whole_ 43 = .ok (.goto 5, 3) := by decide +kernel
theorem dX10_whole__46 : decode cX10_whole_ 46 = .ok (.bipush (-5), 2) := by decide +kernel
theorem dX10_whole__48 : decode cX10_whole_ 48 = .ok (.ireturn, 1) := by decide +kernel
theorem dX10_of_0 : decode cX10_of 0 = .ok (.aload_n 0, 1) := by decide +kernel
theorem dX10_of_1 : decode cX10_of 1 = .ok (.iload_n 1, 1) := by decide +kernel
theorem dX10_of_2 : decode cX10_of 2 = .ok (.invokevirtual 220, 3) := by decide +kernel
theorem dX10_of_5 : decode cX10_of 5 = .ok (.ifCond .ne 5, 3) := by decide +kernel
theorem dX10_of_8 : decode cX10_of 8 = .ok (.iconst (-1), 1) := by decide +kernel
theorem dX10_of_9 : decode cX10_of 9 = .ok (.ireturn, 1) := by decide +kernel
theorem dX10_of_10 : decode cX10_of 10 = .ok (.iload_n 2, 1) := by decide +kernel
theorem dX10_of_11 : decode cX10_of 11 = .ok (.tableswitch 108 0 7 #[45, 52, 59, 66, 84, 90, 96, 102], 45) := by decide +kernel
theorem dX10_of_56 : decode cX10_of 56 = .ok (.aload_n 0, 1) := by decide +kernel
theorem dX10_of_57 : decode cX10_of 57 = .ok (.getfield 19, 3) := by decide +kernel
theorem dX10_of_60 : decode cX10_of 60 = .ok (.iload_n 1, 1) := by decide +kernel
theorem dX10_of_61 : decode cX10_of 61 = .ok (.iaload, 1) := by decide +kernel
theorem dX10_of_62 : decode cX10_of 62 = .ok (.ireturn, 1) := by decide +kernel
theorem dX10_of_63 : decode cX10_of 63 = .ok (.aload_n 0, 1) := by decide +kernel
theorem dX10_of_64 : decode cX10_of 64 = .ok (.getfield 23, 3) := by decide +kernel
theorem dX10_of_67 : decode cX10_of 67 = .ok (.iload_n 1, 1) := by decide +kernel
theorem dX10_of_68 : decode cX10_of 68 = .ok (.iaload, 1) := by decide +kernel
theorem dX10_of_69 : decode cX10_of 69 = .ok (.ireturn, 1) := by decide +kernel
theorem dX10_of_70 : decode cX10_of 70 = .ok (.aload_n 0, 1) := by decide +kernel
theorem dX10_of_71 : decode cX10_of 71 = .ok (.getfield 26, 3) := by decide +kernel
theorem dX10_of_74 : decode cX10_of 74 = .ok (.iload_n 1, 1) := by decide +kernel
theorem dX10_of_75 : decode cX10_of 75 = .ok (.iaload, 1) := by decide +kernel
theorem dX10_of_76 : decode cX10_of 76 = .ok (.ireturn, 1) := by decide +kernel
theorem dX10_of_77 : decode cX10_of 77 = .ok (.aload_n 0, 1) := by decide +kernel
theorem dX10_of_78 : decode cX10_of 78 = .ok (.aload_n 0, 1) := by decide +kernel
theorem dX10_of_79 : decode cX10_of 79 = .ok (.getfield 13, 3) := by decide +kernel
theorem dX10_of_82 : decode cX10_of 82 = .ok (.iload_n 1, 1) := by decide +kernel
theorem dX10_of_83 : decode cX10_of 83 = .ok (.invokevirtual 224, 3) := by decide +kernel
theorem dX10_of_86 : decode cX10_of 86 = .ok (.ifCond .eq 7, 3) := by decide +kernel
theorem dX10_of_89 : decode cX10_of 89 = .ok (.iconst 1, 1) := by decide +kernel
theorem dX10_of_90 : decode cX10_of 90 = .ok (.goto 4, 3) := by decide +kernel
theorem dX10_of_93 : decode cX10_of 93 = .ok (.iconst 0, 1) := by decide +kernel
theorem dX10_of_94 : decode cX10_of 94 = .ok (.ireturn, 1) := by decide +kernel
theorem dX10_of_95 : decode cX10_of 95 = .ok (.aload_n 0, 1) := by decide +kernel
theorem dX10_of_96 : decode cX10_of 96 = .ok (.iload_n 1, 1) := by decide +kernel
theorem dX10_of_97 : decode cX10_of 97 = .ok (.invokevirtual 303, 3) := by decide +kernel
theorem dX10_of_100 : decode cX10_of 100 = .ok (.ireturn, 1) := by decide +kernel
theorem dX10_of_101 : decode cX10_of 101 = .ok (.aload_n 0, 1) := by decide +kernel
theorem dX10_of_102 : decode cX10_of 102 = .ok (.iload_n 1, 1) := by decide +kernel
theorem dX10_of_103 : decode cX10_of 103 = .ok (.invokevirtual 309, 3) := by decide +kernel
theorem dX10_of_106 : decode cX10_of 106 = .ok (.ireturn, 1) := by decide +kernel
theorem dX10_of_107 : decode cX10_of 107 = .ok (.aload_n 0, 1) := by decide +kernel
theorem dX10_of_108 : decode cX10_of 108 = .ok (.iload_n 1, 1) := by decide +kernel
theorem dX10_of_109 : decode cX10_of 109 = .ok (.invokevirtual 327, 3) := by decide +kernel
theorem dX10_of_112 : decode cX10_of 112 = .ok (.ireturn, 1) := by decide +kernel
theorem dX10_of_113 : decode cX10_of 113 = .ok (.aload_n 0, 1) := by decide +kernel
theorem dX10_of_114 : decode cX10_of 114 = .ok (.iload_n 1, 1) := by decide +kernel
theorem dX10_of_115 : decode cX10_of 115 = .ok (.invokevirtual 330, 3) := by decide +kernel
theorem dX10_of_118 : decode cX10_of 118 = .ok (.ireturn, 1) := by decide +kernel
theorem dX10_of_119 : decode cX10_of 119 = .ok (.iconst (-1), 1) := by decide +kernel
theorem dX10_of_120 : decode cX10_of 120 = .ok (.ireturn, 1) := by decide +kernel
theorem dX10_told_0 : decode cX10_told 0 = .ok (.iload_n 1, 1) := by decide +kernel
theorem dX10_told_1 : decode cX10_told 1 = .ok (.tableswitch 51 0 3 #[31, 36, 41, 46], 31) := by decide +kernel
theorem dX10_told_32 : decode cX10_told 32 = .ok (.aload_n 0, 1) := by decide +kernel
theorem dX10_told_33 : decode cX10_told 33 = .ok (.getfield 16, 3) := by decide +kernel
theorem dX10_told_36 : decode cX10_told 36 = .ok (.ireturn, 1) := by decide +kernel
theorem dX10_told_37 : decode cX10_told 37 = .ok (.aload_n 0, 1) := by decide +kernel
theorem dX10_told_38 : decode cX10_told 38 = .ok (.invokevirtual 297, 3) := by decide +kernel
theorem dX10_told_41 : decode cX10_told 41 = .ok (.ireturn, 1) := by decide +kernel
theorem dX10_told_42 : decode cX10_told 42 = .ok (.aload_n 0, 1) := by decide +kernel
theorem dX10_told_43 : decode cX10_told 43 = .ok (.invokevirtual 332, 3) := by decide +kernel
theorem dX10_told_46 : decode cX10_told 46 = .ok (.ireturn, 1) := by decide +kernel
theorem dX10_told_47 : decode cX10_told 47 = .ok (.aload_n 0, 1) := by decide +kernel
theorem dX10_told_48 : decode cX10_told 48 = .ok (.invokevirtual 335, 3) := by decide +kernel
theorem dX10_told_51 : decode cX10_told 51 = .ok (.ireturn, 1) := by decide +kernel
theorem dX10_told_52 : decode cX10_told 52 = .ok (.iconst (-1), 1) := by decide +kernel
theorem dX10_told_53 : decode cX10_told 53 = .ok (.ireturn, 1) := by decide +kernel
theorem dX10_goEvenings_0 : decode cX10_goEvenings 0 = .ok (.iconst 0, 1) := by decide +kernel
theorem dX10_goEvenings_1 : decode cX10_goEvenings 1 = .ok (.istore_n 3, 1) := by decide +kernel
theorem dX10_goEvenings_2 : decode cX10_goEvenings 2 = .ok (.iload_n 3, 1) := by decide +kernel
theorem dX10_goEvenings_3 : decode cX10_goEvenings 3 = .ok (.iload_n 2, 1) := by decide +kernel
theorem dX10_goEvenings_4 : decode cX10_goEvenings 4 = .ok (.if_icmp .ge 15, 3) := by decide +kernel
theorem dX10_goEvenings_7 : decode cX10_goEvenings 7 = .ok (.aload_n 0, 1) := by decide +kernel
theorem dX10_goEvenings_8 : decode cX10_goEvenings 8 = .ok (.iload_n 1, 1) := by decide +kernel
theorem dX10_goEvenings_9 : decode cX10_goEvenings 9 = .ok (.invokevirtual 315, 3) := by decide +kernel
theorem dX10_goEvenings_12 : decode cX10_goEvenings 12 = .ok (.pop, 1) := by decide +kernel
theorem dX10_goEvenings_13 : decode cX10_goEvenings 13 = .ok (.iinc 3 1, 3) := by decide +kernel
theorem dX10_goEvenings_16 : decode cX10_goEvenings 16 = .ok (.goto (-14), 3) := by decide +kernel
theorem dX10_goEvenings_19 : decode cX10_goEvenings 19 = .ok (.return_, 1) := by decide +kernel
theorem dX10_on_0 : decode cX10_on 0 = .ok (.aload_n 0, 1) := by decide +kernel
theorem dX10_on_1 : decode cX10_on 1 = .ok (.iload_n 1, 1) := by decide +kernel
theorem dX10_on_2 : decode cX10_on 2 = .ok (.invokevirtual 220, 3) := by decide +kernel
theorem dX10_on_5 : decode cX10_on 5 = .ok (.ifCond .eq 13, 3) := by decide +kernel
theorem dX10_on_8 : decode cX10_on 8 = .ok (.aload_n 0, 1) := by decide +kernel
theorem dX10_on_9 : decode cX10_on 9 = .ok (.iload_n 3, 1) := by decide +kernel
theorem dX10_on_10 : decode cX10_on 10 = .ok (.iconst 0, 1) := by decide +kernel
theorem dX10_on_11 : decode cX10_on 11 = .ok (.iconst 2, 1) := by decide +kernel
theorem dX10_on_12 : decode cX10_on 12 = .ok (.invokevirtual 212, 3) := by decide +kernel
theorem dX10_on_15 : decode cX10_on 15 = .ok (.ifCond .ne 5, 3) := by decide +kernel
theorem dX10_on_18 : decode cX10_on 18 = .ok (.iconst (-1), 1) := by decide +kernel
theorem dX10_on_19 : decode cX10_on 19 = .ok (.ireturn, 1) := by decide +kernel
theorem dX10_on_20 : decode cX10_on 20 = .ok (.aload_n 0, 1) := by decide +kernel
theorem dX10_on_21 : decode cX10_on 21 = .ok (.iload_n 2, 1) := by decide +kernel
theorem dX10_on_22 : decode cX10_on 22 = .ok (.invokevirtual 318, 3) := by decide +kernel
theorem dX10_on_25 : decode cX10_on 25 = .ok (.ifCond .ne 6, 3) := by decide +kernel
theorem dX10_on_28 : decode cX10_on 28 = .ok (.bipush (-2), 2) := by decide +kernel
theorem dX10_on_30 : decode cX10_on 30 = .ok (.ireturn, 1) := by decide +kernel
theorem dX10_on_31 : decode cX10_on 31 = .ok (.aload_n 0, 1) := by decide +kernel
theorem dX10_on_32 : decode cX10_on 32 = .ok (.invokevirtual 321, 3) := by decide +kernel
theorem dX10_on_35 : decode cX10_on 35 = .ok (.aload_n 0, 1) := by decide +kernel
theorem dX10_on_36 : decode cX10_on 36 = .ok (.iload_n 1, 1) := by decide +kernel
theorem dX10_on_37 : decode cX10_on 37 = .ok (.iload_n 2, 1) := by decide +kernel
theorem dX10_on_38 : decode cX10_on 38 = .ok (.invokevirtual 338, 3) := by decide +kernel
theorem dX10_on_41 : decode cX10_on 41 = .ok (.iload_n 3, 1) := by decide +kernel
theorem dX10_on_42 : decode cX10_on 42 = .ok (.ifCond .ne 12, 3) := by decide +kernel
theorem dX10_on_45 : decode cX10_on 45 = .ok (.aload_n 0, 1) := by decide +kernel
theorem dX10_on_46 : decode cX10_on 46 = .ok (.getfield 26, 3) := by decide +kernel
theorem dX10_on_49 : decode cX10_on 49 = .ok (.iload_n 1, 1) := by decide +kernel
theorem dX10_on_50 : decode cX10_on 50 = .ok (.iaload, 1) := by decide +kernel
theorem dX10_on_51 : decode cX10_on 51 = .ok (.goto 33, 3) := by decide +kernel
theorem dX10_on_54 : decode cX10_on 54 = .ok (.iload_n 3, 1) := by decide +kernel
theorem dX10_on_55 : decode cX10_on 55 = .ok (.iconst 1, 1) := by decide +kernel
theorem dX10_on_56 : decode cX10_on 56 = .ok (.if_icmp .ne 23, 3) := by decide +kernel
theorem dX10_on_59 : decode cX10_on 59 = .ok (.aload_n 0, 1) := by decide +kernel
theorem dX10_on_60 : decode cX10_on 60 = .ok (.aload_n 0, 1) := by decide +kernel
theorem dX10_on_61 : decode cX10_on 61 = .ok (.getfield 13, 3) := by decide +kernel
theorem dX10_on_64 : decode cX10_on 64 = .ok (.iload_n 1, 1) := by decide +kernel
theorem dX10_on_65 : decode cX10_on 65 = .ok (.invokevirtual 224, 3) := by decide +kernel
theorem dX10_on_68 : decode cX10_on 68 = .ok (.ifCond .eq 7, 3) := by decide +kernel
theorem dX10_on_71 : decode cX10_on 71 = .ok (.iconst 1, 1) := by decide +kernel
theorem dX10_on_72 : decode cX10_on 72 = .ok (.goto 12, 3) := by decide +kernel
theorem dX10_on_75 : decode cX10_on 75 = .ok (.iconst 0, 1) := by decide +kernel
theorem dX10_on_76 : decode cX10_on 76 = .ok (.goto 8, 3) := by decide +kernel
theorem dX10_on_79 : decode cX10_on 79 = .ok (.aload_n 0, 1) := by decide +kernel
theorem dX10_on_80 : decode cX10_on 80 = .ok (.iload_n 1, 1) := by decide +kernel
theorem dX10_on_81 : decode cX10_on 81 = .ok (.invokevirtual 303, 3) := by decide +kernel
theorem dX10_on_84 : decode cX10_on 84 = .ok (.istore 4, 2) := by decide +kernel
theorem dX10_on_86 : decode cX10_on 86 = .ok (.aload_n 0, 1) := by decide +kernel
theorem dX10_on_87 : decode cX10_on 87 = .ok (.invokevirtual 324, 3) := by decide +kernel
theorem dX10_on_90 : decode cX10_on 90 = .ok (.iload 4, 2) := by decide +kernel
theorem dX10_on_92 : decode cX10_on 92 = .ok (.ireturn, 1) := by decide +kernel
theorem dX10_layTurn_0 : decode cX10_layTurn 0 = .ok (.iload_n 1, 1) := by decide +kernel
theorem dX10_layTurn_1 : decode cX10_layTurn 1 = .ok (.istore_n 2, 1) := by decide +kernel
theorem dX10_layTurn_2 : decode cX10_layTurn 2 = .ok (.iconst 0, 1) := by decide +kernel
theorem dX10_layTurn_3 : decode cX10_layTurn 3 = .ok (.istore_n 3, 1) := by decide +kernel
theorem dX10_layTurn_4 : decode cX10_layTurn 4 = .ok (.aload_n 0, 1) := by decide +kernel
theorem dX10_layTurn_5 : decode cX10_layTurn 5 = .ok (.getfield 7, 3) := by decide +kernel
theorem dX10_layTurn_8 : decode cX10_layTurn 8 = .ok (.iconst 1, 1) := by decide +kernel
theorem dX10_layTurn_9 : decode cX10_layTurn 9 = .ok (.isub, 1) := by decide +kernel
theorem dX10_layTurn_10 : decode cX10_layTurn 10 = .ok (.istore 4, 2) := by decide +kernel
theorem dX10_layTurn_12 : decode cX10_layTurn 12 = .ok (.iload 4, 2) := by decide +kernel
theorem dX10_layTurn_14 : decode cX10_layTurn 14 = .ok (.ifCond .lt 68, 3) := by decide +kernel
theorem dX10_layTurn_17 : decode cX10_layTurn 17 = .ok (.aload_n 0, 1) := by decide +kernel
theorem dX10_layTurn_18 : decode cX10_layTurn 18 = .ok (.getfield 106, 3) := by decide +kernel
theorem dX10_layTurn_21 : decode cX10_layTurn 21 = .ok (.iload 4, 2) := by decide +kernel
theorem dX10_layTurn_23 : decode cX10_layTurn 23 = .ok (.iload_n 2, 1) := by decide +kernel
theorem dX10_layTurn_24 : decode cX10_layTurn 24 = .ok (.bipush 6, 2) := by decide +kernel
theorem dX10_layTurn_26 : decode cX10_layTurn 26 = .ok (.irem, 1) := by decide +kernel
theorem dX10_layTurn_27 : decode cX10_layTurn 27 = .ok (.iastore, 1) := by decide +kernel
theorem dX10_layTurn_28 : decode cX10_layTurn 28 = .ok (.iload_n 2, 1) := by decide +kernel
theorem dX10_layTurn_29 : decode cX10_layTurn 29 = .ok (.bipush 6, 2) := by decide +kernel
theorem dX10_layTurn_31 : decode cX10_layTurn 31 = .ok (.idiv, 1) := by decide +kernel
theorem dX10_layTurn_32 : decode cX10_layTurn 32 = .ok (.istore_n 2, 1) := by decide +kernel
theorem dX10_layTurn_33 : decode cX10_layTurn 33 = .ok (.aload_n 0, 1) := by decide +kernel
theorem dX10_layTurn_34 : decode cX10_layTurn 34 = .ok (.getfield 106, 3) := by decide +kernel
theorem dX10_layTurn_37 : decode cX10_layTurn 37 = .ok (.iload 4, 2) := by decide +kernel
theorem dX10_layTurn_39 : decode cX10_layTurn 39 = .ok (.iaload, 1) := by decide +kernel
theorem dX10_layTurn_40 : decode cX10_layTurn 40 = .ok (.aload_n 0, 1) := by decide +kernel
theorem dX10_layTurn_41 : decode cX10_layTurn 41 = .ok (.getfield 7, 3) := by decide +kernel
theorem dX10_layTurn_44 : decode cX10_layTurn 44 = .ok (.if_icmp .ge 18, 3) := by decide +kernel
theorem dX10_layTurn_47 : decode cX10_layTurn 47 = .ok (.aload_n 0, 1) := by decide +kernel
theorem dX10_layTurn_48 : decode cX10_layTurn 48 = .ok (.iload_n 3, 1) := by decide +kernel
theorem dX10_layTurn_49 : decode cX10_layTurn 49 = .ok (.aload_n 0, 1) := by decide +kernel
theorem dX10_layTurn_50 : decode cX10_layTurn 50 = .ok (.getfield 106, 3) := by decide +kernel
theorem dX10_layTurn_53 : decode cX10_layTurn 53 = .ok (.iload 4, 2) := by decide +kernel
theorem dX10_layTurn_55 : decode cX10_layTurn 55 = .ok (.iaload, 1) := by decide +kernel
theorem dX10_layTurn_56 : decode cX10_layTurn 56 = .ok (.invokevirtual 224, 3) := by decide +kernel
theorem dX10_layTurn_59 : decode cX10_layTurn 59 = .ok (.ifCond .eq 5, 3) := by decide +kernel
theorem dX10_layTurn_62 : decode cX10_layTurn 62 = .ok (.iconst 0, 1) := by decide +kernel
theorem dX10_layTurn_63 : decode cX10_layTurn 63 = .ok (.ireturn, 1) := by decide +kernel
theorem dX10_layTurn_64 : decode cX10_layTurn 64 = .ok (.iload_n 3, 1) := by decide +kernel
theorem dX10_layTurn_65 : decode cX10_layTurn 65 = .ok (.iconst 1, 1) := by decide +kernel
theorem dX10_layTurn_66 : decode cX10_layTurn 66 = .ok (.aload_n 0, 1) := by decide +kernel
theorem dX10_layTurn_67 : decode cX10_layTurn 67 = .ok (.getfield 106, 3) := by decide +kernel
theorem dX10_layTurn_70 : decode cX10_layTurn 70 = .ok (.iload 4, 2) := by decide +kernel
theorem dX10_layTurn_72 : decode cX10_layTurn 72 = .ok (.iaload, 1) := by decide +kernel
theorem dX10_layTurn_73 : decode cX10_layTurn 73 = .ok (.ishl, 1) := by decide +kernel
theorem dX10_layTurn_74 : decode cX10_layTurn 74 = .ok (.ior, 1) := by decide +kernel
theorem dX10_layTurn_75 : decode cX10_layTurn 75 = .ok (.istore_n 3, 1) := by decide +kernel
theorem dX10_layTurn_76 : decode cX10_layTurn 76 = .ok (.iinc 4 (-1), 3) := by decide +kernel
theorem dX10_layTurn_79 : decode cX10_layTurn 79 = .ok (.goto (-67), 3) := by decide +kernel
theorem dX10_layTurn_82 : decode cX10_layTurn 82 = .ok (.iconst 1, 1) := by decide +kernel
theorem dX10_layTurn_83 : decode cX10_layTurn 83 = .ok (.ireturn, 1) := by decide +kernel
theorem dX10_goWhole_0 : decode cX10_goWhole 0 = .ok (.iconst 0, 1) := by decide +kernel
theorem dX10_goWhole_1 : decode cX10_goWhole 1 = .ok (.istore_n 2, 1) := by decide +kernel
theorem dX10_goWhole_2 : decode cX10_goWhole 2 = .ok (.iload_n 2, 1) := by decide +kernel
theorem dX10_goWhole_3 : decode cX10_goWhole 3 = .ok (.bipush 20, 2) := by decide +kernel
theorem dX10_goWhole_5 : decode cX10_goWhole 5 = .ok (.if_icmp .ge 35, 3) := by decide +kernel
theorem dX10_goWhole_8 : decode cX10_goWhole 8 = .ok (.aload_n 0, 1) := by decide +kernel
theorem dX10_goWhole_9 : decode cX10_goWhole 9 = .ok (.iload_n 1, 1) := by decide +kernel
theorem dX10_goWhole_10 : decode cX10_goWhole 10 = .ok (.invokevirtual 300, 3) := by decide +kernel
theorem dX10_goWhole_13 : decode cX10_goWhole 13 = .ok (.ifCond .ne 27, 3) := by decide +kernel
theorem dX10_goWhole_16 : decode cX10_goWhole 16 = .ok (.aload_n 0, 1) := by decide +kernel
theorem dX10_goWhole_17 : decode cX10_goWhole 17 = .ok (.aload_n 0, 1) := by decide +kernel
theorem dX10_goWhole_18 : decode cX10_goWhole 18 = .ok (.getfield 13, 3) := by decide +kernel
theorem dX10_goWhole_21 : decode cX10_goWhole 21 = .ok (.iload_n 1, 1) := by decide +kernel
theorem dX10_goWhole_22 : decode cX10_goWhole 22 = .ok (.invokevirtual 224, 3) := by decide +kernel
theorem dX10_goWhole_25 : decode cX10_goWhole 25 = .ok (.ifCond .ne 15, 3) := by decide +kernel
theorem dX10_goWhole_28 : decode cX10_goWhole 28 = .ok (.aload_n 0, 1) := by decide +kernel
theorem dX10_goWhole_29 : decode cX10_goWhole 29 = .ok (.iload_n 1, 1) := by decide +kernel
theorem dX10_goWhole_30 : decode cX10_goWhole 30 = .ok (.invokevirtual 315, 3) := by decide +kernel
theorem dX10_goWhole_33 : decode cX10_goWhole 33 = .ok (.pop, 1) := by decide +kernel
theorem dX10_goWhole_34 : decode cX10_goWhole 34 = .ok (.iinc 2 1, 3) := by decide +kernel
theorem dX10_goWhole_37 : decode cX10_goWhole 37 = .ok (.goto (-35), 3) := by decide +kernel
theorem dX10_goWhole_40 : decode cX10_goWhole 40 = .ok (.iload_n 2, 1) := by decide +kernel
theorem dX10_goWhole_41 : decode cX10_goWhole 41 = .ok (.ireturn, 1) := by decide +kernel
theorem dX10_goTurn_0 : decode cX10_goTurn 0 = .ok (.aload_n 0, 1) := by decide +kernel
theorem dX10_goTurn_1 : decode cX10_goTurn 1 = .ok (.invokevirtual 321, 3) := by decide +kernel
theorem dX10_goTurn_4 : decode cX10_goTurn 4 = .ok (.iconst 0, 1) := by decide +kernel
theorem dX10_goTurn_5 : decode cX10_goTurn 5 = .ok (.istore_n 1, 1) := by decide +kernel
theorem dX10_goTurn_6 : decode cX10_goTurn 6 = .ok (.iconst 0, 1) := by decide +kernel
theorem dX10_goTurn_7 : decode cX10_goTurn 7 = .ok (.istore_n 2, 1) := by decide +kernel
theorem dX10_goTurn_8 : decode cX10_goTurn 8 = .ok (.iload_n 2, 1) := by decide +kernel
theorem dX10_goTurn_9 : decode cX10_goTurn 9 = .ok (.aload_n 0, 1) := by decide +kernel
theorem dX10_goTurn_10 : decode cX10_goTurn 10 = .ok (.getfield 7, 3) := by decide +kernel
theorem dX10_goTurn_13 : decode cX10_goTurn 13 = .ok (.if_icmp .ge 22, 3) := by decide +kernel
theorem dX10_goTurn_16 : decode cX10_goTurn 16 = .ok (.iload_n 1, 1) := by decide +kernel
theorem dX10_goTurn_17 : decode cX10_goTurn 17 = .ok (.aload_n 0, 1) := by decide +kernel
theorem dX10_goTurn_18 : decode cX10_goTurn 18 = .ok (.aload_n 0, 1) := by decide +kernel
theorem dX10_goTurn_19 : decode cX10_goTurn 19 = .ok (.getfield 106, 3) := by decide +kernel
theorem dX10_goTurn_22 : decode cX10_goTurn 22 = .ok (.iload_n 2, 1) := by decide +kernel
theorem dX10_goTurn_23 : decode cX10_goTurn 23 = .ok (.iaload, 1) := by decide +kernel
theorem dX10_goTurn_24 : decode cX10_goTurn 24 = .ok (.invokevirtual 342, 3) := by decide +kernel
theorem dX10_goTurn_27 : decode cX10_goTurn 27 = .ok (.iadd, 1) := by decide +kernel
theorem dX10_goTurn_28 : decode cX10_goTurn 28 = .ok (.istore_n 1, 1) := by decide +kernel
theorem dX10_goTurn_29 : decode cX10_goTurn 29 = .ok (.iinc 2 1, 3) := by decide +kernel
theorem dX10_goTurn_32 : decode cX10_goTurn 32 = .ok (.goto (-24), 3) := by decide +kernel
theorem dX10_goTurn_35 : decode cX10_goTurn 35 = .ok (.aload_n 0, 1) := by decide +kernel
theorem dX10_goTurn_36 : decode cX10_goTurn 36 = .ok (.invokevirtual 324, 3) := by decide +kernel
theorem dX10_goTurn_39 : decode cX10_goTurn 39 = .ok (.iload_n 1, 1) := by decide +kernel
theorem dX10_goTurn_40 : decode cX10_goTurn 40 = .ok (.ireturn, 1) := by decide +kernel
theorem dX10_soonest_0 : decode cX10_soonest 0 = .ok (.aload_n 0, 1) := by decide +kernel
theorem dX10_soonest_1 : decode cX10_soonest 1 = .ok (.iload_n 1, 1) := by decide +kernel
theorem dX10_soonest_2 : decode cX10_soonest 2 = .ok (.iconst (-1), 1) := by decide +kernel
theorem dX10_soonest_3 : decode cX10_soonest 3 = .ok (.iconst 5, 1) := by decide +kernel
theorem dX10_soonest_4 : decode cX10_soonest 4 = .ok (.invokevirtual 212, 3) := by decide +kernel
theorem dX10_soonest_7 : decode cX10_soonest 7 = .ok (.ifCond .ne 5, 3) := by decide +kernel
theorem dX10_soonest_10 : decode cX10_soonest 10 = .ok (.iconst (-1), 1) := by decide +kernel
theorem dX10_soonest_11 : decode cX10_soonest 11 = .ok (.ireturn, 1) := by decide +kernel
theorem dX10_soonest_12 : decode cX10_soonest 12 = .ok (.aload_n 0, 1) := by decide +kernel
theorem dX10_soonest_13 : decode cX10_soonest 13 = .ok (.invokevirtual 345, 3) := by decide +kernel
theorem dX10_soonest_16 : decode cX10_soonest 16 = .ok (.iconst 1, 1) := by decide +kernel
theorem dX10_soonest_17 : decode cX10_soonest 17 = .ok (.istore_n 2, 1) := by decide +kernel
theorem dX10_soonest_18 : decode cX10_soonest 18 = .ok (.iconst 0, 1) := by decide +kernel
theorem dX10_soonest_19 : decode cX10_soonest 19 = .ok (.istore_n 3, 1) := by decide +kernel
theorem dX10_soonest_20 : decode cX10_soonest 20 = .ok (.iload_n 3, 1) := by decide +kernel
theorem dX10_soonest_21 : decode cX10_soonest 21 = .ok (.aload_n 0, 1) := by decide +kernel
theorem dX10_soonest_22 : decode cX10_soonest 22 = .ok (.getfield 7, 3) := by decide +kernel
theorem dX10_soonest_25 : decode cX10_soonest 25 = .ok (.if_icmp .ge 14, 3) := by decide +kernel
theorem dX10_soonest_28 : decode cX10_soonest 28 = .ok (.iload_n 2, 1) := by decide +kernel
theorem dX10_soonest_29 : decode cX10_soonest 29 = .ok (.bipush 6, 2) := by decide +kernel
theorem dX10_soonest_31 : decode cX10_soonest 31 = .ok (.imul, 1) := by decide +kernel
theorem dX10_soonest_32 : decode cX10_soonest 32 = .ok (.istore_n 2, 1) := by decide +kernel
theorem dX10_soonest_33 : decode cX10_soonest 33 = .ok (.iinc 3 1, 3) := by decide +kernel
theorem dX10_soonest_36 : decode cX10_soonest 36 = .ok (.goto (-16), 3) := by decide +kernel
theorem dX10_soonest_39 : decode cX10_soonest 39 = .ok (.iconst (-1), 1) := by decide +kernel
theorem dX10_soonest_40 : decode cX10_soonest 40 = .ok (.istore_n 3, 1) := by decide +kernel
theorem dX10_soonest_41 : decode cX10_soonest 41 = .ok (.iconst 0, 1) := by decide +kernel
theorem dX10_soonest_42 : decode cX10_soonest 42 = .ok (.istore 4, 2) := by decide +kernel
theorem dX10_soonest_44 : decode cX10_soonest 44 = .ok (.iload 4, 2) := by decide +kernel
theorem dX10_soonest_46 : decode cX10_soonest 46 = .ok (.iload_n 2, 1) := by decide +kernel
theorem dX10_soonest_47 : decode cX10_soonest 47 = .ok (.if_icmp .ge 73, 3) := by decide +kernel
theorem dX10_soonest_50 : decode cX10_soonest 50 = .ok (.aload_n 0, 1) := by decide +kernel
theorem dX10_soonest_51 : decode cX10_soonest 51 = .ok (.iload 4, 2) := by decide +kernel
theorem dX10_soonest_53 : decode cX10_soonest 53 = .ok (.invokevirtual 348, 3) := by decide +kernel
theorem dX10_soonest_56 : decode cX10_soonest 56 = .ok (.ifCond .ne 6, 3) := by decide +kernel
theorem dX10_soonest_59 : decode cX10_soonest 59 = .ok (.goto 55, 3) := by decide +kernel
theorem dX10_soonest_62 : decode cX10_soonest 62 = .ok (.aload_n 0, 1) := by decide +kernel
theorem dX10_soonest_63 : decode cX10_soonest 63 = .ok (.invokevirtual 351, 3) := by decide +kernel
theorem dX10_soonest_66 : decode cX10_soonest 66 = .ok (.istore 5, 2) := by decide +kernel
theorem dX10_soonest_68 : decode cX10_soonest 68 = .ok (.iload_n 3, 1) := by decide +kernel
theorem dX10_soonest_69 : decode cX10_soonest 69 = .ok (.ifCond .lt 12, 3) := by decide +kernel
theorem dX10_soonest_72 : decode cX10_soonest 72 = .ok (.iload 5, 2) := by decide +kernel
theorem dX10_soonest_74 : decode cX10_soonest 74 = .ok (.iload_n 3, 1) := by decide +kernel
theorem dX10_soonest_75 : decode cX10_soonest 75 = .ok (.if_icmp .lt 6, 3) := by decide +kernel
theorem dX10_soonest_78 : decode cX10_soonest 78 = .ok (.goto 36, 3) := by decide +kernel
theorem dX10_soonest_81 : decode cX10_soonest 81 = .ok (.iload 5, 2) := by decide +kernel
theorem dX10_soonest_83 : decode cX10_soonest 83 = .ok (.istore_n 3, 1) := by decide +kernel
theorem dX10_soonest_84 : decode cX10_soonest 84 = .ok (.iconst 0, 1) := by decide +kernel
theorem dX10_soonest_85 : decode cX10_soonest 85 = .ok (.istore 6, 2) := by decide +kernel
theorem dX10_soonest_87 : decode cX10_soonest 87 = .ok (.iload 6, 2) := by decide +kernel
theorem dX10_soonest_89 : decode cX10_soonest 89 = .ok (.bipush 6, 2) := by decide +kernel
theorem dX10_soonest_91 : decode cX10_soonest 91 = .ok (.if_icmp .ge 23, 3) := by decide +kernel
theorem dX10_soonest_94 : decode cX10_soonest 94 = .ok (.aload_n 0, 1) := by decide +kernel
theorem dX10_soonest_95 : decode cX10_soonest 95 = .ok (.getfield 109, 3) := by decide +kernel
theorem dX10_soonest_98 : decode cX10_soonest 98 = .ok (.iload 6, 2) := by decide +kernel
theorem dX10_soonest_100 : decode cX10_soonest 100 = .ok (.aload_n 0, 1) := by decide +kernel
theorem dX10_soonest_101 : decode cX10_soonest 101 = .ok (.getfield 106, 3) := by decide +kernel
theorem dX10_soonest_104 : decode cX10_soonest 104 = .ok (.iload 6, 2) := by decide +kernel
theorem dX10_soonest_106 : decode cX10_soonest 106 = .ok (.iaload, 1) := by decide +kernel
theorem dX10_soonest_107 : decode cX10_soonest 107 = .ok (.iastore, 1) := by decide +kernel
theorem dX10_soonest_108 : decode cX10_soonest 108 = .ok (.iinc 6 1, 3) := by decide +kernel
theorem dX10_soonest_111 : decode cX10_soonest 111 = .ok (.goto (-24), 3) := by decide +kernel
theorem dX10_soonest_114 : decode cX10_soonest 114 = .ok (.iinc 4 1, 3) := by decide +kernel
theorem dX10_soonest_117 : decode cX10_soonest 117 = .ok (.goto (-73), 3) := by decide +kernel
theorem dX10_soonest_120 : decode cX10_soonest 120 = .ok (.aload_n 0, 1) := by decide +kernel
theorem dX10_soonest_121 : decode cX10_soonest 121 = .ok (.iconst 0, 1) := by decide +kernel
theorem dX10_soonest_122 : decode cX10_soonest 122 = .ok (.putfield 87, 3) := by decide +kernel
theorem dX10_soonest_125 : decode cX10_soonest 125 = .ok (.iload_n 1, 1) := by decide +kernel
theorem dX10_soonest_126 : decode cX10_soonest 126 = .ok (.ifCond .ge 5, 3) := by decide +kernel
theorem dX10_soonest_129 : decode cX10_soonest 129 = .ok (.iload_n 3, 1) := by decide +kernel
theorem dX10_soonest_130 : decode cX10_soonest 130 = .ok (.ireturn, 1) := by decide +kernel
theorem dX10_soonest_131 : decode cX10_soonest 131 = .ok (.iload_n 1, 1) := by decide +kernel
theorem dX10_soonest_132 : decode cX10_soonest 132 = .ok (.aload_n 0, 1) := by decide +kernel
theorem dX10_soonest_133 : decode cX10_soonest 133 = .ok (.getfield 7, 3) := by decide +kernel
theorem dX10_soonest_136 : decode cX10_soonest 136 = .ok (.if_icmp .ge 12, 3) := by decide +kernel
theorem dX10_soonest_139 : decode cX10_soonest 139 = .ok (.aload_n 0, 1) := by decide +kernel
theorem dX10_soonest_140 : decode cX10_soonest 140 = .ok (.getfield 109, 3) := by decide +kernel
theorem dX10_soonest_143 : decode cX10_soonest 143 = .ok (.iload_n 1, 1) := by decide +kernel
theorem dX10_soonest_144 : decode cX10_soonest 144 = .ok (.iaload, 1) := by decide +kernel
theorem dX10_soonest_145 : decode cX10_soonest 145 = .ok (.goto 5, 3) := by decide +kernel
theorem dX10_soonest_148 : decode cX10_soonest 148 = .ok (.bipush (-5), 2) := by decide +kernel
theorem dX10_soonest_150 : decode cX10_soonest 150 = .ok (.ireturn, 1) := by decide +kernel
theorem dX10_most_0 : decode cX10_most 0 = .ok (.aload_n 0, 1) := by decide +kernel
theorem dX10_most_1 : decode cX10_most 1 = .ok (.iload_n 2, 1) := by decide +kernel
theorem dX10_most_2 : decode cX10_most 2 = .ok (.iconst (-1), 1) := by decide +kernel
theorem dX10_most_3 : decode cX10_most 3 = .ok (.iconst 4, 1) := by decide +kernel
theorem dX10_most_4 : decode cX10_most 4 = .ok (.invokevirtual 212, 3) := by decide +kernel
theorem dX10_most_7 : decode cX10_most 7 = .ok (.ifCond .ne 5, 3) := by decide +kernel
theorem dX10_most_10 : decode cX10_most 10 = .ok (.iconst (-1), 1) := by decide +kernel
theorem dX10_most_11 : decode cX10_most 11 = .ok (.ireturn, 1) := by decide +kernel
theorem dX10_most_12 : decode cX10_most 12 = .ok (.aload_n 0, 1) := by decide +kernel
theorem dX10_most_13 : decode cX10_most 13 = .ok (.iload_n 1, 1) := by decide +kernel
theorem dX10_most_14 : decode cX10_most 14 = .ok (.iconst 1, 1) := by decide +kernel
theorem dX10_most_15 : decode cX10_most 15 = .ok (.iconst 5, 1) := by decide +kernel
theorem dX10_most_16 : decode cX10_most 16 = .ok (.invokevirtual 212, 3) := by decide +kernel
theorem dX10_most_19 : decode cX10_most 19 = .ok (.ifCond .ne 6, 3) := by decide +kernel
theorem dX10_most_22 : decode cX10_most 22 = .ok (.bipush (-2), 2) := by decide +kernel
theorem dX10_most_24 : decode cX10_most 24 = .ok (.ireturn, 1) := by decide +kernel
theorem dX10_most_25 : decode cX10_most 25 = .ok (.aload_n 0, 1) := by decide +kernel
theorem dX10_most_26 : decode cX10_most 26 = .ok (.getfield 7, 3) := by decide +kernel
theorem dX10_most_29 : decode cX10_most 29 = .ok (.ifCond .ne 6, 3) := by decide +kernel
theorem dX10_most_32 : decode cX10_most 32 = .ok (.bipush (-5), 2) := by decide +kernel
theorem dX10_most_34 : decode cX10_most 34 = .ok (.ireturn, 1) := by decide +kernel
theorem dX10_most_35 : decode cX10_most 35 = .ok (.aload_n 0, 1) := by decide +kernel
theorem dX10_most_36 : decode cX10_most 36 = .ok (.invokevirtual 345, 3) := by decide +kernel
theorem dX10_most_39 : decode cX10_most 39 = .ok (.iconst 1, 1) := by decide +kernel
theorem dX10_most_40 : decode cX10_most 40 = .ok (.istore_n 3, 1) := by decide +kernel
theorem dX10_most_41 : decode cX10_most 41 = .ok (.iconst 0, 1) := by decide +kernel
theorem dX10_most_42 : decode cX10_most 42 = .ok (.istore 4, 2) := by decide +kernel
theorem dX10_most_44 : decode cX10_most 44 = .ok (.iload 4, 2) := by decide +kernel
theorem dX10_most_46 : decode cX10_most 46 = .ok (.iload_n 1, 1) := by decide +kernel
theorem dX10_most_47 : decode cX10_most 47 = .ok (.if_icmp .ge 16, 3) := by decide +kernel
theorem dX10_most_50 : decode cX10_most 50 = .ok (.iload_n 3, 1) := by decide +kernel
theorem dX10_most_51 : decode cX10_most 51 = .ok (.aload_n 0, 1) := by decide +kernel
theorem dX10_most_52 : decode cX10_most 52 = .ok (.getfield 7, 3) := by decide +kernel
theorem dX10_most_55 : decode cX10_most 55 = .ok (.imul, 1) := by decide +kernel
theorem dX10_most_56 : decode cX10_most 56 = .ok (.istore_n 3, 1) := by decide +kernel
theorem dX10_most_57 : decode cX10_most 57 = .ok (.iinc 4 1, 3) := by decide +kernel
theorem dX10_most_60 : decode cX10_most 60 = .ok (.goto (-16), 3) := by decide +kernel
theorem dX10_most_63 : decode cX10_most 63 = .ok (.iconst 0, 1) := by decide +kernel
theorem dX10_most_64 : decode cX10_most 64 = .ok (.istore 4, 2) := by decide +kernel
theorem dX10_most_66 : decode cX10_most 66 = .ok (.iconst (-1), 1) := by decide +kernel
theorem dX10_most_67 : decode cX10_most 67 = .ok (.istore 5, 2) := by decide +kernel
theorem dX10_most_69 : decode cX10_most 69 = .ok (.iconst 0, 1) := by decide +kernel
theorem dX10_most_70 : decode cX10_most 70 = .ok (.istore 6, 2) := by decide +kernel
theorem dX10_most_72 : decode cX10_most 72 = .ok (.iload 6, 2) := by decide +kernel
theorem dX10_most_74 : decode cX10_most 74 = .ok (.iload_n 3, 1) := by decide +kernel
theorem dX10_most_75 : decode cX10_most 75 = .ok (.if_icmp .ge 98, 3) := by decide +kernel
theorem dX10_most_78 : decode cX10_most 78 = .ok (.aload_n 0, 1) := by decide +kernel
theorem dX10_most_79 : decode cX10_most 79 = .ok (.invokevirtual 321, 3) := by decide +kernel
theorem dX10_most_82 : decode cX10_most 82 = .ok (.iload_n 3, 1) := by decide +kernel
theorem dX10_most_83 : decode cX10_most 83 = .ok (.aload_n 0, 1) := by decide +kernel
theorem dX10_most_84 : decode cX10_most 84 = .ok (.getfield 7, 3) := by decide +kernel
theorem dX10_most_87 : decode cX10_most 87 = .ok (.idiv, 1) := by decide +kernel
theorem dX10_most_88 : decode cX10_most 88 = .ok (.istore 7, 2) := by decide +kernel
theorem dX10_most_90 : decode cX10_most 90 = .ok (.iconst 0, 1) := by decide +kernel
theorem dX10_most_91 : decode cX10_most 91 = .ok (.istore 8, 2) := by decide +kernel
theorem dX10_most_93 : decode cX10_most 93 = .ok (.iload 8, 2) := by decide +kernel
theorem dX10_most_95 : decode cX10_most 95 = .ok (.iload_n 1, 1) := by decide +kernel
theorem dX10_most_96 : decode cX10_most 96 = .ok (.if_icmp .ge 43, 3) := by decide +kernel
theorem dX10_most_99 : decode cX10_most 99 = .ok (.aload_n 0, 1) := by decide +kernel
theorem dX10_most_100 : decode cX10_most 100 = .ok (.iload 6, 2) := by decide +kernel
theorem dX10_most_102 : decode cX10_most 102 = .ok (.iload 7, 2) := by decide +kernel
theorem dX10_most_104 : decode cX10_most 104 = .ok (.idiv, 1) := by decide +kernel
theorem dX10_most_105 : decode cX10_most 105 = .ok (.aload_n 0, 1) := by decide +kernel
theorem dX10_most_106 : decode cX10_most 106 = .ok (.getfield 7, 3) := by decide +kernel
theorem dX10_most_109 : decode cX10_most 109 = .ok (.irem, 1) := by decide +kernel
theorem dX10_most_110 : decode cX10_most 110 = .ok (.invokevirtual 315, 3) := by decide +kernel
theorem dX10_most_113 : decode cX10_most 113 = .ok (.pop, 1) := by decide +kernel
theorem dX10_most_114 : decode cX10_most 114 = .ok (.iload 7, 2) := by decide +kernel
theorem dX10_most_116 : decode cX10_most 116 = .ok (.iconst 1, 1) := by decide +kernel
theorem dX10_most_117 : decode cX10_most 117 = .ok (.if_icmp .le 13, 3) := by decide +kernel
theorem dX10_most_120 : decode cX10_most 120 = .ok (.iload 7, 2) := by decide +kernel
theorem dX10_most_122 : decode cX10_most 122 = .ok (.aload_n 0, 1) := by decide +kernel
theorem dX10_most_123 : decode cX10_most 123 = .ok (.getfield 7, 3) := by decide +kernel
theorem dX10_most_126 : decode cX10_most 126 = .ok (.idiv, 1) := by decide +kernel
theorem dX10_most_127 : decode cX10_most 127 = .ok (.goto 4, 3) := by decide +kernel
theorem dX10_most_130 : decode cX10_most 130 = .ok (.iconst 1, 1) := by decide +kernel
theorem dX10_most_131 : decode cX10_most 131 = .ok (.istore 7, 2) := by decide +kernel
theorem dX10_most_133 : decode cX10_most 133 = .ok (.iinc 8 1, 3) := by decide +kernel
theorem dX10_most_136 : decode cX10_most 136 = .ok (.goto (-43), 3) := by decide +kernel
theorem dX10_most_139 : decode cX10_most 139 = .ok (.aload_n 0, 1) := by decide +kernel
theorem dX10_most_140 : decode cX10_most 140 = .ok (.invokevirtual 332, 3) := by decide +kernel
theorem dX10_most_143 : decode cX10_most 143 = .ok (.istore 8, 2) := by decide +kernel
theorem dX10_most_145 : decode cX10_most 145 = .ok (.aload_n 0, 1) := by decide +kernel
theorem dX10_most_146 : decode cX10_most 146 = .ok (.invokevirtual 324, 3) := by decide +kernel
theorem dX10_most_149 : decode cX10_most 149 = .ok (.iload 8, 2) := by decide +kernel
theorem dX10_most_151 : decode cX10_most 151 = .ok (.iload 5, 2) := by decide +kernel
theorem dX10_most_153 : decode cX10_most 153 = .ok (.if_icmp .gt 6, 3) := by decide +kernel
theorem dX10_most_156 : decode cX10_most 156 = .ok (.goto 11, 3) := by decide +kernel
theorem dX10_most_159 : decode cX10_most 159 = .ok (.iload 6, 2) := by decide +kernel
theorem dX10_most_161 : decode cX10_most 161 = .ok (.istore 4, 2) := by decide +kernel
theorem dX10_most_163 : decode cX10_most 163 = .ok (.iload 8, 2) := by decide +kernel
theorem dX10_most_165 : decode cX10_most 165 = .ok (.istore 5, 2) := by decide +kernel
theorem dX10_most_167 : decode cX10_most 167 = .ok (.iinc 6 1, 3) := by decide +kernel
theorem dX10_most_170 : decode cX10_most 170 = .ok (.goto (-98), 3) := by decide +kernel
theorem dX10_most_173 : decode cX10_most 173 = .ok (.aload_n 0, 1) := by decide +kernel
theorem dX10_most_174 : decode cX10_most 174 = .ok (.iconst 0, 1) := by decide +kernel
theorem dX10_most_175 : decode cX10_most 175 = .ok (.putfield 87, 3) := by decide +kernel
theorem dX10_most_178 : decode cX10_most 178 = .ok (.iload_n 2, 1) := by decide +kernel
theorem dX10_most_179 : decode cX10_most 179 = .ok (.ifCond .ge 6, 3) := by decide +kernel
theorem dX10_most_182 : decode cX10_most 182 = .ok (.iload 5, 2) := by decide +kernel
theorem dX10_most_184 : decode cX10_most 184 = .ok (.ireturn, 1) := by decide +kernel
theorem dX10_most_185 : decode cX10_most 185 = .ok (.iload_n 2, 1) := by decide +kernel
theorem dX10_most_186 : decode cX10_most 186 = .ok (.iload_n 1, 1) := by decide +kernel
theorem dX10_most_187 : decode cX10_most 187 = .ok (.if_icmp .lt 6, 3) := by decide +kernel
theorem dX10_most_190 : decode cX10_most 190 = .ok (.bipush (-5), 2) := by decide +kernel
theorem dX10_most_192 : decode cX10_most 192 = .ok (.ireturn, 1) := by decide +kernel
theorem dX10_most_193 : decode cX10_most 193 = .ok (.iconst 1, 1) := by decide +kernel
theorem dX10_most_194 : decode cX10_most 194 = .ok (.istore 6, 2) := by decide +kernel
theorem dX10_most_196 : decode cX10_most 196 = .ok (.iload_n 2, 1) := by decide +kernel
theorem dX10_most_197 : decode cX10_most 197 = .ok (.iconst 1, 1) := by decide +kernel
theorem dX10_most_198 : decode cX10_most 198 = .ok (.iadd, 1) := by decide +kernel
theorem dX10_most_199 : decode cX10_most 199 = .ok (.istore 7, 2) := by decide +kernel
theorem dX10_most_201 : decode cX10_most 201 = .ok (.iload 7, 2) := by decide +kernel
theorem dX10_most_203 : decode cX10_most 203 = .ok (.iload_n 1, 1) := by decide +kernel
theorem dX10_most_204 : decode cX10_most 204 = .ok (.if_icmp .ge 18, 3) := by decide +kernel
theorem dX10_most_207 : decode cX10_most 207 = .ok (.iload 6, 2) := by decide +kernel
theorem dX10_most_209 : decode cX10_most 209 = .ok (.aload_n 0, 1) := by decide +kernel
theorem dX10_most_210 : decode cX10_most 210 = .ok (.getfield 7, 3) := by decide +kernel
theorem dX10_most_213 : decode cX10_most 213 = .ok (.imul, 1) := by decide +kernel
theorem dX10_most_214 : decode cX10_most 214 = .ok (.istore 6, 2) := by decide +kernel
theorem dX10_most_216 : decode cX10_most 216 = .ok (.iinc 7 1, 3) := by decide +kernel
theorem dX10_most_219 : decode cX10_most 219 = .ok (.goto (-18), 3) := by decide +kernel
theorem dX10_most_222 : decode cX10_most 222 = .ok (.iload 4, 2) := by decide +kernel
theorem dX10_most_224 : decode cX10_most 224 = .ok (.iload 6, 2) := by decide +kernel
theorem dX10_most_226 : decode cX10_most 226 = .ok (.idiv, 1) := by decide +kernel
theorem dX10_most_227 : decode cX10_most 227 = .ok (.aload_n 0, 1) := by decide +kernel
theorem dX10_most_228 : decode cX10_most 228 = .ok (.getfield 7, 3) := by decide +kernel
theorem dX10_most_231 : decode cX10_most 231 = .ok (.irem, 1) := by decide +kernel
theorem dX10_most_232 : decode cX10_most 232 = .ok (.ireturn, 1) := by decide +kernel
theorem dX10_next_0 : decode cX10_next 0 = .ok (.bipush (-5), 2) := by decide +kernel
theorem dX10_next_2 : decode cX10_next 2 = .ok (.istore_n 1, 1) := by decide +kernel
theorem dX10_next_3 : decode cX10_next 3 = .ok (.iconst 0, 1) := by decide +kernel
theorem dX10_next_4 : decode cX10_next 4 = .ok (.istore_n 2, 1) := by decide +kernel
theorem dX10_next_5 : decode cX10_next 5 = .ok (.iconst 0, 1) := by decide +kernel
theorem dX10_next_6 : decode cX10_next 6 = .ok (.istore_n 3, 1) := by decide +kernel
theorem dX10_next_7 : decode cX10_next 7 = .ok (.iload_n 3, 1) := by decide +kernel
theorem dX10_next_8 : decode cX10_next 8 = .ok (.aload_n 0, 1) := by decide +kernel
theorem dX10_next_9 : decode cX10_next 9 = .ok (.getfield 7, 3) := by decide +kernel
theorem dX10_next_12 : decode cX10_next 12 = .ok (.if_icmp .ge 47, 3) := by decide +kernel
theorem dX10_next_15 : decode cX10_next 15 = .ok (.aload_n 0, 1) := by decide +kernel
theorem dX10_next_16 : decode cX10_next 16 = .ok (.invokevirtual 321, 3) := by decide +kernel
theorem dX10_next_19 : decode cX10_next 19 = .ok (.aload_n 0, 1) := by decide +kernel
theorem dX10_next_20 : decode cX10_next 20 = .ok (.iload_n 3, 1) := by decide +kernel
theorem dX10_next_21 : decode cX10_next 21 = .ok (.invokevirtual 315, 3) := by decide +kernel
theorem dX10_next_24 : decode cX10_next 24 = .ok (.pop, 1) := by decide +kernel
theorem dX10_next_25 : decode cX10_next 25 = .ok (.aload_n 0, 1) := by decide +kernel
theorem dX10_next_26 : decode cX10_next 26 = .ok (.invokevirtual 335, 3) := by decide +kernel
theorem dX10_next_29 : decode cX10_next 29 = .ok (.istore 4, 2) := by decide +kernel
theorem dX10_next_31 : decode cX10_next 31 = .ok (.aload_n 0, 1) := by decide +kernel
theorem dX10_next_32 : decode cX10_next 32 = .ok (.invokevirtual 324, 3) := by decide +kernel
theorem dX10_next_35 : decode cX10_next 35 = .ok (.iload_n 1, 1) := by decide +kernel
theorem dX10_next_36 : decode cX10_next 36 = .ok (.ifCond .lt 12, 3) := by decide +kernel
theorem dX10_next_39 : decode cX10_next 39 = .ok (.iload 4, 2) := by decide +kernel
theorem dX10_next_41 : decode cX10_next 41 = .ok (.iload_n 2, 1) := by decide +kernel
theorem dX10_next_42 : decode cX10_next 42 = .ok (.if_icmp .lt 6, 3) := by decide +kernel
theorem dX10_next_45 : decode cX10_next 45 = .ok (.goto 8, 3) := by decide +kernel
theorem dX10_next_48 : decode cX10_next 48 = .ok (.iload_n 3, 1) := by decide +kernel
theorem dX10_next_49 : decode cX10_next 49 = .ok (.istore_n 1, 1) := by decide +kernel
theorem dX10_next_50 : decode cX10_next 50 = .ok (.iload 4, 2) := by decide +kernel
theorem dX10_next_52 : decode cX10_next 52 = .ok (.istore_n 2, 1) := by decide +kernel
theorem dX10_next_53 : decode cX10_next 53 = .ok (.iinc 3 1, 3) := by decide +kernel
theorem dX10_next_56 : decode cX10_next 56 = .ok (.goto (-49), 3) := by decide +kernel
theorem dX10_next_59 : decode cX10_next 59 = .ok (.iload_n 1, 1) := by decide +kernel
theorem dX10_next_60 : decode cX10_next 60 = .ok (.ireturn, 1) := by decide +kernel
theorem dX10_see_0 : decode cX10_see 0 = .ok (.iload_n 1, 1) := by decide +kernel
theorem dX10_see_1 : decode cX10_see 1 = .ok (.iconst (-1), 1) := by decide +kernel
theorem dX10_see_2 : decode cX10_see 2 = .ok (.if_icmp .ne 10, 3) := by decide +kernel
theorem dX10_see_5 : decode cX10_see 5 = .ok (.aload_n 0, 1) := by decide +kernel
theorem dX10_see_6 : decode cX10_see 6 = .ok (.iconst 0, 1) := by decide +kernel
theorem dX10_see_7 : decode cX10_see 7 = .ok (.putfield 112, 3) := by decide +kernel
theorem dX10_see_10 : decode cX10_see 10 = .ok (.iconst 0, 1) := by decide +kernel
theorem dX10_see_11 : decode cX10_see 11 = .ok (.ireturn, 1) := by decide +kernel
theorem dX10_see_12 : decode cX10_see 12 = .ok (.aload_n 0, 1) := by decide +kernel
theorem dX10_see_13 : decode cX10_see 13 = .ok (.iload_n 1, 1) := by decide +kernel
theorem dX10_see_14 : decode cX10_see 14 = .ok (.invokevirtual 220, 3) := by decide +kernel
theorem dX10_see_17 : decode cX10_see 17 = .ok (.ifCond .ne 5, 3) := by decide +kernel
theorem dX10_see_20 : decode cX10_see 20 = .ok (.iconst (-1), 1) := by decide +kernel
theorem dX10_see_21 : decode cX10_see 21 = .ok (.ireturn, 1) := by decide +kernel
theorem dX10_see_22 : decode cX10_see 22 = .ok (.aload_n 0, 1) := by decide +kernel
theorem dX10_see_23 : decode cX10_see 23 = .ok (.iload_n 2, 1) := by decide +kernel
theorem dX10_see_24 : decode cX10_see 24 = .ok (.iconst 0, 1) := by decide +kernel
theorem dX10_see_25 : decode cX10_see 25 = .ok (.sipush 999, 3) := by decide +kernel
theorem dX10_see_28 : decode cX10_see 28 = .ok (.invokevirtual 212, 3) := by decide +kernel
theorem dX10_see_31 : decode cX10_see 31 = .ok (.ifCond .eq 14, 3) := by decide +kernel
theorem dX10_see_34 : decode cX10_see 34 = .ok (.aload_n 0, 1) := by decide +kernel
theorem dX10_see_35 : decode cX10_see 35 = .ok (.iload_n 3, 1) := by decide +kernel
theorem dX10_see_36 : decode cX10_see 36 = .ok (.iconst 0, 1) := by decide +kernel
theorem dX10_see_37 : decode cX10_see 37 = .ok (.bipush 20, 2) := by decide +kernel
theorem dX10_see_39 : decode cX10_see 39 = .ok (.invokevirtual 212, 3) := by decide +kernel
theorem dX10_see_42 : decode cX10_see 42 = .ok (.ifCond .ne 6, 3) := by decide +kernel
theorem dX10_see_45 : decode cX10_see 45 = .ok (.bipush (-2), 2) := by decide +kernel
theorem dX10_see_47 : decode cX10_see 47 = .ok (.ireturn, 1) := by decide +kernel
theorem dX10_see_48 : decode cX10_see 48 = .ok (.aload_n 0, 1) := by decide +kernel
theorem dX10_see_49 : decode cX10_see 49 = .ok (.getfield 112, 3) := by decide +kernel
theorem dX10_see_52 : decode cX10_see 52 = .ok (.iconst 5, 1) := by decide +kernel
theorem dX10_see_53 : decode cX10_see 53 = .ok (.if_icmp .ne 6, 3) := by decide +kernel
theorem dX10_see_56 : decode cX10_see 56 = .ok (.bipush (-4), 2) := by decide +kernel
theorem dX10_see_58 : decode cX10_see 58 = .ok (.ireturn, 1) := by decide +kernel
theorem dX10_see_59 : decode cX10_see 59 = .ok (.aload_n 0, 1) := by decide +kernel
theorem dX10_see_60 : decode cX10_see 60 = .ok (.getfield 115, 3) := by decide +kernel
theorem dX10_see_63 : decode cX10_see 63 = .ok (.aload_n 0, 1) := by decide +kernel
theorem dX10_see_64 : decode cX10_see 64 = .ok (.getfield 112, 3) := by decide +kernel
theorem dX10_see_67 : decode cX10_see 67 = .ok (.iload_n 1, 1) := by decide +kernel
theorem dX10_see_68 : decode cX10_see 68 = .ok (.iastore, 1) := by decide +kernel
theorem dX10_see_69 : decode cX10_see 69 = .ok (.aload_n 0, 1) := by decide +kernel
theorem dX10_see_70 : decode cX10_see 70 = .ok (.getfield 118, 3) := by decide +kernel
theorem dX10_see_73 : decode cX10_see 73 = .ok (.aload_n 0, 1) := by decide +kernel
theorem dX10_see_74 : decode cX10_see 74 = .ok (.getfield 112, 3) := by decide +kernel
theorem dX10_see_77 : decode cX10_see 77 = .ok (.iload_n 2, 1) := by decide +kernel
theorem dX10_see_78 : decode cX10_see 78 = .ok (.iastore, 1) := by decide +kernel
theorem dX10_see_79 : decode cX10_see 79 = .ok (.aload_n 0, 1) := by decide +kernel
theorem dX10_see_80 : decode cX10_see 80 = .ok (.getfield 121, 3) := by decide +kernel
theorem dX10_see_83 : decode cX10_see 83 = .ok (.aload_n 0, 1) := by decide +kernel
theorem dX10_see_84 : decode cX10_see 84 = .ok (.getfield 112, 3) := by decide +kernel
theorem dX10_see_87 : decode cX10_see 87 = .ok (.iload_n 3, 1) := by decide +kernel
theorem dX10_see_88 : decode cX10_see 88 = .ok (.iastore, 1) := by decide +kernel
theorem dX10_see_89 : decode cX10_see 89 = .ok (.aload_n 0, 1) := by decide +kernel
theorem dX10_see_90 : decode cX10_see 90 = .ok (.dup, 1) := by decide +kernel
theorem dX10_see_91 : decode cX10_see 91 = .ok (.getfield 112, 3) := by decide +kernel
theorem dX10_see_94 : decode cX10_see 94 = .ok (.iconst 1, 1) := by decide +kernel
theorem dX10_see_95 : decode cX10_see 95 = .ok (.iadd, 1) := by decide +kernel
theorem dX10_see_96 : decode cX10_see 96 = .ok (.putfield 112, 3) := by decide +kernel
theorem dX10_see_99 : decode cX10_see 99 = .ok (.aload_n 0, 1) := by decide +kernel
theorem dX10_see_100 : decode cX10_see 100 = .ok (.getfield 112, 3) := by decide +kernel
theorem dX10_see_103 : decode cX10_see 103 = .ok (.ireturn, 1) := by decide +kernel
theorem dX10_isSeen_0 : decode cX10_isSeen 0 = .ok (.iconst 1, 1) := by decide +kernel
theorem dX10_isSeen_1 : decode cX10_isSeen 1 = .ok (.istore_n 2, 1) := by decide +kernel
theorem dX10_isSeen_2 : decode cX10_isSeen 2 = .ok (.iconst 0, 1) := by decide +kernel
theorem dX10_isSeen_3 : decode cX10_isSeen 3 = .ok (.istore_n 3, 1) := by decide +kernel
theorem dX10_isSeen_4 : decode cX10_isSeen 4 = .ok (.iload_n 3, 1) := by decide +kernel
theorem dX10_isSeen_5 : decode cX10_isSeen 5 = .ok (.aload_n 0, 1) := by decide +kernel
theorem dX10_isSeen_6 : decode cX10_isSeen 6 = .ok (.getfield 112, 3) := by decide +kernel
theorem dX10_isSeen_9 : decode cX10_isSeen 9 = .ok (.if_icmp .ge 73, 3) := by decide +kernel
theorem dX10_isSeen_12 : decode cX10_isSeen 12 = .ok (.iload_n 2, 1) := by decide +kernel
theorem dX10_isSeen_13 : decode cX10_isSeen 13 = .ok (.ifCond .eq 69, 3) := by decide +kernel
theorem dX10_isSeen_16 : decode cX10_isSeen 16 = .ok (.aload_n 0, 1) := by decide +kernel
theorem dX10_isSeen_17 : decode cX10_isSeen 17 = .ok (.getfield 115, 3) := by decide +kernel
theorem dX10_isSeen_20 : decode cX10_isSeen 20 = .ok (.iload_n 3, 1) := by decide +kernel
theorem dX10_isSeen_21 : decode cX10_isSeen 21 = .ok (.iaload, 1) := by decide +kernel
theorem dX10_isSeen_22 : decode cX10_isSeen 22 = .ok (.iload_n 1, 1) := by decide +kernel
theorem dX10_isSeen_23 : decode cX10_isSeen 23 = .ok (.if_icmp .eq 6, 3) := by decide +kernel
theorem dX10_isSeen_26 : decode cX10_isSeen 26 = .ok (.goto 50, 3) := by decide +kernel
theorem dX10_isSeen_29 : decode cX10_isSeen 29 = .ok (.aload_n 0, 1) := by decide +kernel
theorem dX10_isSeen_30 : decode cX10_isSeen 30 = .ok (.invokevirtual 321, 3) := by decide +kernel
theorem dX10_isSeen_33 : decode cX10_isSeen 33 = .ok (.aload_n 0, 1) := by decide +kernel
theorem dX10_isSeen_34 : decode cX10_isSeen 34 = .ok (.iload_n 1, 1) := by decide +kernel
theorem dX10_isSeen_35 : decode cX10_isSeen 35 = .ok (.aload_n 0, 1) := by decide +kernel
theorem dX10_isSeen_36 : decode cX10_isSeen 36 = .ok (.getfield 121, 3) := by decide +kernel
theorem dX10_isSeen_39 : decode cX10_isSeen 39 = .ok (.iload_n 3, 1) := by decide +kernel
theorem dX10_isSeen_40 : decode cX10_isSeen 40 = .ok (.iaload, 1) := by decide +kernel
theorem dX10_isSeen_41 : decode cX10_isSeen 41 = .ok (.invokevirtual 338, 3) := by decide +kernel
theorem dX10_isSeen_44 : decode cX10_isSeen 44 = .ok (.aload_n 0, 1) := by decide +kernel
theorem dX10_isSeen_45 : decode cX10_isSeen 45 = .ok (.getfield 26, 3) := by decide +kernel
theorem dX10_isSeen_48 : decode cX10_isSeen 48 = .ok (.iload_n 1, 1) := by decide +kernel
theorem dX10_isSeen_49 : decode cX10_isSeen 49 = .ok (.iaload, 1) := by decide +kernel
theorem dX10_isSeen_50 : decode cX10_isSeen 50 = .ok (.aload_n 0, 1) := by decide +kernel
theorem dX10_isSeen_51 : decode cX10_isSeen 51 = .ok (.getfield 103, 3) := by decide +kernel
theorem dX10_isSeen_54 : decode cX10_isSeen 54 = .ok (.iload_n 1, 1) := by decide +kernel
theorem dX10_isSeen_55 : decode cX10_isSeen 55 = .ok (.iaload, 1) := by decide +kernel
theorem dX10_isSeen_56 : decode cX10_isSeen 56 = .ok (.isub, 1) := by decide +kernel
theorem dX10_isSeen_57 : decode cX10_isSeen 57 = .ok (.aload_n 0, 1) := by decide +kernel
theorem dX10_isSeen_58 : decode cX10_isSeen 58 = .ok (.getfield 118, 3) := by decide +kernel
theorem dX10_isSeen_61 : decode cX10_isSeen 61 = .ok (.iload_n 3, 1) := by decide +kernel
theorem dX10_isSeen_62 : decode cX10_isSeen 62 = .ok (.iaload, 1) := by decide +kernel
theorem dX10_isSeen_63 : decode cX10_isSeen 63 = .ok (.if_icmp .ne 7, 3) := by decide +kernel
theorem dX10_isSeen_66 : decode cX10_isSeen 66 = .ok (.iconst 1, 1) := by decide +kernel
theorem dX10_isSeen_67 : decode cX10_isSeen 67 = .ok (.goto 4, 3) := by decide +kernel
theorem dX10_isSeen_70 : decode cX10_isSeen 70 = .ok (.iconst 0, 1) := by decide +kernel
theorem dX10_isSeen_71 : decode cX10_isSeen 71 = .ok (.istore_n 2, 1) := by decide +kernel
theorem dX10_isSeen_72 : decode cX10_isSeen 72 = .ok (.aload_n 0, 1) := by decide +kernel
theorem dX10_isSeen_73 : decode cX10_isSeen 73 = .ok (.invokevirtual 324, 3) := by decide +kernel
theorem dX10_isSeen_76 : decode cX10_isSeen 76 = .ok (.iinc 3 1, 3) := by decide +kernel
theorem dX10_isSeen_79 : decode cX10_isSeen 79 = .ok (.goto (-75), 3) := by decide +kernel
theorem dX10_isSeen_82 : decode cX10_isSeen 82 = .ok (.iload_n 2, 1) := by decide +kernel
theorem dX10_isSeen_83 : decode cX10_isSeen 83 = .ok (.ireturn, 1) := by decide +kernel
theorem dX10_since_0 : decode cX10_since 0 = .ok (.aload_n 0, 1) := by decide +kernel
theorem dX10_since_1 : decode cX10_since 1 = .ok (.iload_n 1, 1) := by decide +kernel
theorem dX10_since_2 : decode cX10_since 2 = .ok (.invokevirtual 220, 3) := by decide +kernel
theorem dX10_since_5 : decode cX10_since 5 = .ok (.ifCond .eq 13, 3) := by decide +kernel
theorem dX10_since_8 : decode cX10_since 8 = .ok (.aload_n 0, 1) := by decide +kernel
theorem dX10_since_9 : decode cX10_since 9 = .ok (.iload_n 2, 1) := by decide +kernel
theorem dX10_since_10 : decode cX10_since 10 = .ok (.iconst 0, 1) := by decide +kernel
theorem dX10_since_11 : decode cX10_since 11 = .ok (.iconst 1, 1) := by decide +kernel
theorem dX10_since_12 : decode cX10_since 12 = .ok (.invokevirtual 212, 3) := by decide +kernel
theorem dX10_since_15 : decode cX10_since 15 = .ok (.ifCond .ne 5, 3) := by decide +kernel
theorem dX10_since_18 : decode cX10_since 18 = .ok (.iconst (-1), 1) := by decide +kernel
theorem dX10_since_19 : decode cX10_since 19 = .ok (.ireturn, 1) := by decide +kernel
theorem dX10_since_20 : decode cX10_since 20 = .ok (.aload_n 0, 1) := by decide +kernel
theorem dX10_since_21 : decode cX10_since 21 = .ok (.getfield 26, 3) := by decide +kernel
theorem dX10_since_24 : decode cX10_since 24 = .ok (.iload_n 1, 1) := by decide +kernel
theorem dX10_since_25 : decode cX10_since 25 = .ok (.iaload, 1) := by decide +kernel
theorem dX10_since_26 : decode cX10_since 26 = .ok (.istore_n 3, 1) := by decide +kernel
theorem dX10_since_27 : decode cX10_since 27 = .ok (.iconst 0, 1) := by decide +kernel
theorem dX10_since_28 : decode cX10_since 28 = .ok (.istore 4, 2) := by decide +kernel
theorem dX10_since_30 : decode cX10_since 30 = .ok (.bipush (-5), 2) := by decide +kernel
theorem dX10_since_32 : decode cX10_since 32 = .ok (.istore 5, 2) := by decide +kernel
theorem dX10_since_34 : decode cX10_since 34 = .ok (.aload_n 0, 1) := by decide +kernel
theorem dX10_since_35 : decode cX10_since 35 = .ok (.getfield 16, 3) := by decide +kernel
theorem dX10_since_38 : decode cX10_since 38 = .ok (.bipush 99, 2) := by decide +kernel
theorem dX10_since_40 : decode cX10_since 40 = .ok (.if_icmp .ge 10, 3) := by decide +kernel
theorem dX10_since_43 : decode cX10_since 43 = .ok (.aload_n 0, 1) := by decide +kernel
theorem dX10_since_44 : decode cX10_since 44 = .ok (.getfield 16, 3) := by decide +kernel
theorem dX10_since_47 : decode cX10_since 47 = .ok (.goto 5, 3) := by decide +kernel
theorem dX10_since_50 : decode cX10_since 50 = .ok (.bipush 99, 2) := by decide +kernel
theorem dX10_since_52 : decode cX10_since 52 = .ok (.istore 6, 2) := by decide +kernel
theorem dX10_since_54 : decode cX10_since 54 = .ok (.iload 6, 2) := by decide +kernel
theorem dX10_since_56 : decode cX10_since 56 = .ok (.ifCond .lt 40, 3) := by decide +kernel
theorem dX10_since_59 : decode cX10_since 59 = .ok (.aload_n 0, 1) := by decide +kernel
theorem dX10_since_60 : decode cX10_since 60 = .ok (.getfield 26, 3) := by decide +kernel
theorem dX10_since_63 : decode cX10_since 63 = .ok (.iload_n 1, 1) := by decide +kernel
theorem dX10_since_64 : decode cX10_since 64 = .ok (.aload_n 0, 1) := by decide +kernel
theorem dX10_since_65 : decode cX10_since 65 = .ok (.getfield 16, 3) := by decide +kernel
theorem dX10_since_68 : decode cX10_since 68 = .ok (.iload 6, 2) := by decide +kernel
theorem dX10_since_70 : decode cX10_since 70 = .ok (.isub, 1) := by decide +kernel
theorem dX10_since_71 : decode cX10_since 71 = .ok (.iastore, 1) := by decide +kernel
theorem dX10_since_72 : decode cX10_since 72 = .ok (.aload_n 0, 1) := by decide +kernel
theorem dX10_since_73 : decode cX10_since 73 = .ok (.iload_n 1, 1) := by decide +kernel
theorem dX10_since_74 : decode cX10_since 74 = .ok (.invokevirtual 354, 3) := by decide +kernel
theorem dX10_since_77 : decode cX10_since 77 = .ok (.ifCond .ne 6, 3) := by decide +kernel
theorem dX10_since_80 : decode cX10_since 80 = .ok (.goto 10, 3) := by decide +kernel
theorem dX10_since_83 : decode cX10_since 83 = .ok (.iinc 4 1, 3) := by decide +kernel
theorem dX10_since_86 : decode cX10_since 86 = .ok (.iload 6, 2) := by decide +kernel
theorem dX10_since_88 : decode cX10_since 88 = .ok (.istore 5, 2) := by decide +kernel
theorem dX10_since_90 : decode cX10_since 90 = .ok (.iinc 6 (-1), 3) := by decide +kernel
theorem dX10_since_93 : decode cX10_since 93 = .ok (.goto (-39), 3) := by decide +kernel
theorem dX10_since_96 : decode cX10_since 96 = .ok (.aload_n 0, 1) := by decide +kernel
theorem dX10_since_97 : decode cX10_since 97 = .ok (.getfield 26, 3) := by decide +kernel
theorem dX10_since_100 : decode cX10_since 100 = .ok (.iload_n 1, 1) := by decide +kernel
theorem dX10_since_101 : decode cX10_since 101 = .ok (.iload_n 3, 1) := by decide +kernel
theorem dX10_since_102 : decode cX10_since 102 = .ok (.iastore, 1) := by decide +kernel
theorem dX10_since_103 : decode cX10_since 103 = .ok (.iload_n 2, 1) := by decide +kernel
theorem dX10_since_104 : decode cX10_since 104 = .ok (.ifCond .ne 8, 3) := by decide +kernel
theorem dX10_since_107 : decode cX10_since 107 = .ok (.iload 4, 2) := by decide +kernel
theorem dX10_since_109 : decode cX10_since 109 = .ok (.goto 5, 3) := by decide +kernel
theorem dX10_since_112 : decode cX10_since 112 = .ok (.iload 5, 2) := by decide +kernel
theorem dX10_since_114 : decode cX10_since 114 = .ok (.ireturn, 1) := by decide +kernel
theorem dX10_can_0 : decode cX10_can 0 = .ok (.aload_n 0, 1) := by decide +kernel
theorem dX10_can_1 : decode cX10_can 1 = .ok (.iload_n 1, 1) := by decide +kernel
theorem dX10_can_2 : decode cX10_can 2 = .ok (.invokevirtual 220, 3) := by decide +kernel
theorem dX10_can_5 : decode cX10_can 5 = .ok (.ifCond .eq 13, 3) := by decide +kernel
theorem dX10_can_8 : decode cX10_can 8 = .ok (.aload_n 0, 1) := by decide +kernel
theorem dX10_can_9 : decode cX10_can 9 = .ok (.iload_n 2, 1) := by decide +kernel
theorem dX10_can_10 : decode cX10_can 10 = .ok (.iconst 0, 1) := by decide +kernel
theorem dX10_can_11 : decode cX10_can 11 = .ok (.iconst 1, 1) := by decide +kernel
theorem dX10_can_12 : decode cX10_can 12 = .ok (.invokevirtual 212, 3) := by decide +kernel
theorem dX10_can_15 : decode cX10_can 15 = .ok (.ifCond .ne 5, 3) := by decide +kernel
theorem dX10_can_18 : decode cX10_can 18 = .ok (.iconst (-1), 1) := by decide +kernel
theorem dX10_can_19 : decode cX10_can 19 = .ok (.ireturn, 1) := by decide +kernel
theorem dX10_can_20 : decode cX10_can 20 = .ok (.aload_n 0, 1) := by decide +kernel
theorem dX10_can_21 : decode cX10_can 21 = .ok (.getfield 23, 3) := by decide +kernel
theorem dX10_can_24 : decode cX10_can 24 = .ok (.iload_n 1, 1) := by decide +kernel
theorem dX10_can_25 : decode cX10_can 25 = .ok (.iaload, 1) := by decide +kernel
theorem dX10_can_26 : decode cX10_can 26 = .ok (.istore_n 3, 1) := by decide +kernel
theorem dX10_can_27 : decode cX10_can 27 = .ok (.iconst 0, 1) := by decide +kernel
theorem dX10_can_28 : decode cX10_can 28 = .ok (.istore 4, 2) := by decide +kernel
theorem dX10_can_30 : decode cX10_can 30 = .ok (.bipush (-5), 2) := by decide +kernel
theorem dX10_can_32 : decode cX10_can 32 = .ok (.istore 5, 2) := by decide +kernel
theorem dX10_can_34 : decode cX10_can 34 = .ok (.bipush 9, 2) := by decide +kernel
theorem dX10_can_36 : decode cX10_can 36 = .ok (.istore 6, 2) := by decide +kernel
end
section
theorem dX10_can_38 : decode cX10_can 38 = .ok (.iload 6, 2) := by decide +kernel
theorem dX10_can_40 : decode cX10_can 40 = .ok (.ifCond .lt 35, 3) := by decide +kernel
theorem dX10_can_43 : decode cX10_can 43 = .ok (.aload_n 0, 1) := by decide +kernel
theorem dX10_can_44 : decode cX10_can 44 = .ok (.getfield 23, 3) := by decide +kernel
theorem dX10_can_47 : decode cX10_can 47 = .ok (.iload_n 1, 1) := by decide +kernel
theorem dX10_can_48 : decode cX10_can 48 = .ok (.iload 6, 2) := by decide +kernel
theorem dX10_can_50 : decode cX10_can 50 = .ok (.iastore, 1) := by decide +kernel
theorem dX10_can_51 : decode cX10_can 51 = .ok (.aload_n 0, 1) := by decide +kernel
theorem dX10_can_52 : decode cX10_can 52 = .ok (.iload_n 1, 1) := by decide +kernel
theorem dX10_can_53 : decode cX10_can 53 = .ok (.invokevirtual 354, 3) := by decide +kernel
theorem dX10_can_56 : decode cX10_can 56 = .ok (.ifCond .ne 6, 3) := by decide +kernel
theorem dX10_can_59 : decode cX10_can 59 = .ok (.goto 10, 3) := by decide +kernel
theorem dX10_can_62 : decode cX10_can 62 = .ok (.iinc 4 1, 3) := by decide +kernel
theorem dX10_can_65 : decode cX10_can 65 = .ok (.iload 6, 2) := by decide +kernel
theorem dX10_can_67 : decode cX10_can 67 = .ok (.istore 5, 2) := by decide +kernel
theorem dX10_can_69 : decode cX10_can 69 = .ok (.iinc 6 (-1), 3) := by decide +kernel
theorem dX10_can_72 : decode cX10_can 72 = .ok (.goto (-34), 3) := by decide +kernel
theorem dX10_can_75 : decode cX10_can 75 = .ok (.aload_n 0, 1) := by decide +kernel
theorem dX10_can_76 : decode cX10_can 76 = .ok (.getfield 23, 3) := by decide +kernel
theorem dX10_can_79 : decode cX10_can 79 = .ok (.iload_n 1, 1) := by decide +kernel
theorem dX10_can_80 : decode cX10_can 80 = .ok (.iload_n 3, 1) := by decide +kernel
theorem dX10_can_81 : decode cX10_can 81 = .ok (.iastore, 1) := by decide +kernel
theorem dX10_can_82 : decode cX10_can 82 = .ok (.iload_n 2, 1) := by decide +kernel
theorem dX10_can_83 : decode cX10_can 83 = .ok (.ifCond .ne 8, 3) := by decide +kernel
theorem dX10_can_86 : decode cX10_can 86 = .ok (.iload 4, 2) := by decide +kernel
theorem dX10_can_88 : decode cX10_can 88 = .ok (.goto 5, 3) := by decide +kernel
theorem dX10_can_91 : decode cX10_can 91 = .ok (.iload 5, 2) := by decide +kernel
theorem dX10_can_93 : decode cX10_can 93 = .ok (.ireturn, 1) := by decide +kernel
theorem dX10_divisor_0 : decode cX10_divisor 0 = .ok (.iload_n 1, 1) := by decide +kernel
theorem dX10_divisor_1 : decode cX10_divisor 1 = .ok (.istore_n 3, 1) := by decide +kernel
theorem dX10_divisor_2 : decode cX10_divisor 2 = .ok (.iload_n 2, 1) := by decide +kernel
theorem dX10_divisor_3 : decode cX10_divisor 3 = .ok (.istore 4, 2) := by decide +kernel
theorem dX10_divisor_5 : decode cX10_divisor 5 = .ok (.iload 4, 2) := by decide +kernel
theorem dX10_divisor_7 : decode cX10_divisor 7 = .ok (.ifCond .eq 19, 3) := by decide +kernel
theorem dX10_divisor_10 : decode cX10_divisor 10 = .ok (.iload_n 3, 1) := by decide +kernel
theorem dX10_divisor_11 : decode cX10_divisor 11 = .ok (.iload 4, 2) := by decide +kernel
theorem dX10_divisor_13 : decode cX10_divisor 13 = .ok (.irem, 1) := by decide +kernel
theorem dX10_divisor_14 : decode cX10_divisor 14 = .ok (.istore 5, 2) := by decide +kernel
theorem dX10_divisor_16 : decode cX10_divisor 16 = .ok (.iload 4, 2) := by decide +kernel
theorem dX10_divisor_18 : decode cX10_divisor 18 = .ok (.istore_n 3, 1) := by decide +kernel
theorem dX10_divisor_19 : decode cX10_divisor 19 = .ok (.iload 5, 2) := by decide +kernel
theorem dX10_divisor_21 : decode cX10_divisor 21 = .ok (.istore 4, 2) := by decide +kernel
theorem dX10_divisor_23 : decode cX10_divisor 23 = .ok (.goto (-18), 3) := by decide +kernel
theorem dX10_divisor_26 : decode cX10_divisor 26 = .ok (.iload_n 3, 1) := by decide +kernel
theorem dX10_divisor_27 : decode cX10_divisor 27 = .ok (.ireturn, 1) := by decide +kernel
theorem dX10_lowest_0 : decode cX10_lowest 0 = .ok (.aload_n 0, 1) := by decide +kernel
theorem dX10_lowest_1 : decode cX10_lowest 1 = .ok (.iload_n 1, 1) := by decide +kernel
theorem dX10_lowest_2 : decode cX10_lowest 2 = .ok (.iload_n 2, 1) := by decide +kernel
theorem dX10_lowest_3 : decode cX10_lowest 3 = .ok (.invokevirtual 357, 3) := by decide +kernel
theorem dX10_lowest_6 : decode cX10_lowest 6 = .ok (.istore 4, 2) := by decide +kernel
theorem dX10_lowest_8 : decode cX10_lowest 8 = .ok (.iload_n 3, 1) := by decide +kernel
theorem dX10_lowest_9 : decode cX10_lowest 9 = .ok (.ifCond .ne 11, 3) := by decide +kernel
theorem dX10_lowest_12 : decode cX10_lowest 12 = .ok (.iload_n 1, 1) := by decide +kernel
theorem dX10_lowest_13 : decode cX10_lowest 13 = .ok (.iload 4, 2) := by decide +kernel
theorem dX10_lowest_15 : decode cX10_lowest 15 = .ok (.idiv, 1) := by decide +kernel
theorem dX10_lowest_16 : decode cX10_lowest 16 = .ok (.i2l, 1) := by decide +kernel
theorem dX10_lowest_17 : decode cX10_lowest 17 = .ok (.goto 8, 3) := by decide +kernel
theorem dX10_lowest_20 : decode cX10_lowest 20 = .ok (.iload_n 2, 1) := by decide +kernel
theorem dX10_lowest_21 : decode cX10_lowest 21 = .ok (.iload 4, 2) := by decide +kernel
theorem dX10_lowest_23 : decode cX10_lowest 23 = .ok (.idiv, 1) := by decide +kernel
theorem dX10_lowest_24 : decode cX10_lowest 24 = .ok (.i2l, 1) := by decide +kernel
theorem dX10_lowest_25 : decode cX10_lowest 25 = .ok (.lreturn, 1) := by decide +kernel
theorem dX10_odds_0 : decode cX10_odds 0 = .ok (.aload_n 0, 1) := by decide +kernel
theorem dX10_odds_1 : decode cX10_odds 1 = .ok (.iload_n 1, 1) := by decide +kernel
theorem dX10_odds_2 : decode cX10_odds 2 = .ok (.invokevirtual 318, 3) := by decide +kernel
theorem dX10_odds_5 : decode cX10_odds 5 = .ok (.ifCond .eq 20, 3) := by decide +kernel
theorem dX10_odds_8 : decode cX10_odds 8 = .ok (.aload_n 0, 1) := by decide +kernel
theorem dX10_odds_9 : decode cX10_odds 9 = .ok (.iload_n 2, 1) := by decide +kernel
theorem dX10_odds_10 : decode cX10_odds 10 = .ok (.iconst 0, 1) := by decide +kernel
theorem dX10_odds_11 : decode cX10_odds 11 = .ok (.iconst 1, 1) := by decide +kernel
theorem dX10_odds_12 : decode cX10_odds 12 = .ok (.invokevirtual 212, 3) := by decide +kernel
theorem dX10_odds_15 : decode cX10_odds 15 = .ok (.ifCond .eq 10, 3) := by decide +kernel
theorem dX10_odds_18 : decode cX10_odds 18 = .ok (.aload_n 0, 1) := by decide +kernel
theorem dX10_odds_19 : decode cX10_odds 19 = .ok (.getfield 7, 3) := by decide +kernel
theorem dX10_odds_22 : decode cX10_odds 22 = .ok (.ifCond .ne 7, 3) := by decide +kernel
theorem dX10_odds_25 : decode cX10_odds 25 = .ok (.ldc2_w 360, 3) := by decide +kernel
theorem dX10_odds_28 : decode cX10_odds 28 = .ok (.lreturn, 1) := by decide +kernel
theorem dX10_odds_29 : decode cX10_odds 29 = .ok (.iconst 0, 1) := by decide +kernel
theorem dX10_odds_30 : decode cX10_odds 30 = .ok (.istore_n 3, 1) := by decide +kernel
theorem dX10_odds_31 : decode cX10_odds 31 = .ok (.iconst 0, 1) := by decide +kernel
theorem dX10_odds_32 : decode cX10_odds 32 = .ok (.istore 4, 2) := by decide +kernel
theorem dX10_odds_34 : decode cX10_odds 34 = .ok (.iload 4, 2) := by decide +kernel
theorem dX10_odds_36 : decode cX10_odds 36 = .ok (.aload_n 0, 1) := by decide +kernel
theorem dX10_odds_37 : decode cX10_odds 37 = .ok (.getfield 7, 3) := by decide +kernel
theorem dX10_odds_40 : decode cX10_odds 40 = .ok (.if_icmp .ge 41, 3) := by decide +kernel
theorem dX10_odds_43 : decode cX10_odds 43 = .ok (.aload_n 0, 1) := by decide +kernel
theorem dX10_odds_44 : decode cX10_odds 44 = .ok (.invokevirtual 321, 3) := by decide +kernel
theorem dX10_odds_47 : decode cX10_odds 47 = .ok (.aload_n 0, 1) := by decide +kernel
theorem dX10_odds_48 : decode cX10_odds 48 = .ok (.iload 4, 2) := by decide +kernel
theorem dX10_odds_50 : decode cX10_odds 50 = .ok (.iload_n 1, 1) := by decide +kernel
theorem dX10_odds_51 : decode cX10_odds 51 = .ok (.invokevirtual 338, 3) := by decide +kernel
theorem dX10_odds_54 : decode cX10_odds 54 = .ok (.iload_n 3, 1) := by decide +kernel
theorem dX10_odds_55 : decode cX10_odds 55 = .ok (.aload_n 0, 1) := by decide +kernel
theorem dX10_odds_56 : decode cX10_odds 56 = .ok (.iload 4, 2) := by decide +kernel
theorem dX10_odds_58 : decode cX10_odds 58 = .ok (.invokevirtual 300, 3) := by decide +kernel
theorem dX10_odds_61 : decode cX10_odds 61 = .ok (.ifCond .eq 7, 3) := by decide +kernel
theorem dX10_odds_64 : decode cX10_odds 64 = .ok (.iconst 1, 1) := by decide +kernel
theorem dX10_odds_65 : decode cX10_odds 65 = .ok (.goto 4, 3) := by decide +kernel
theorem dX10_odds_68 : decode cX10_odds 68 = .ok (.iconst 0, 1) := by decide +kernel
theorem dX10_odds_69 : decode cX10_odds 69 = .ok (.iadd, 1) := by decide +kernel
theorem dX10_odds_70 : decode cX10_odds 70 = .ok (.istore_n 3, 1) := by decide +kernel
theorem dX10_odds_71 : decode cX10_odds 71 = .ok (.aload_n 0, 1) := by decide +kernel
theorem dX10_odds_72 : decode cX10_odds 72 = .ok (.invokevirtual 324, 3) := by decide +kernel
theorem dX10_odds_75 : decode cX10_odds 75 = .ok (.iinc 4 1, 3) := by decide +kernel
theorem dX10_odds_78 : decode cX10_odds 78 = .ok (.goto (-44), 3) := by decide +kernel
theorem dX10_odds_81 : decode cX10_odds 81 = .ok (.aload_n 0, 1) := by decide +kernel
theorem dX10_odds_82 : decode cX10_odds 82 = .ok (.iload_n 3, 1) := by decide +kernel
theorem dX10_odds_83 : decode cX10_odds 83 = .ok (.aload_n 0, 1) := by decide +kernel
theorem dX10_odds_84 : decode cX10_odds 84 = .ok (.getfield 7, 3) := by decide +kernel
theorem dX10_odds_87 : decode cX10_odds 87 = .ok (.iload_n 2, 1) := by decide +kernel
theorem dX10_odds_88 : decode cX10_odds 88 = .ok (.invokevirtual 362, 3) := by decide +kernel
theorem dX10_odds_91 : decode cX10_odds 91 = .ok (.lreturn, 1) := by decide +kernel
theorem dX10_mean_0 : decode cX10_mean 0 = .ok (.aload_n 0, 1) := by decide +kernel
theorem dX10_mean_1 : decode cX10_mean 1 = .ok (.iload_n 1, 1) := by decide +kernel
theorem dX10_mean_2 : decode cX10_mean 2 = .ok (.iconst 0, 1) := by decide +kernel
theorem dX10_mean_3 : decode cX10_mean 3 = .ok (.iconst 1, 1) := by decide +kernel
theorem dX10_mean_4 : decode cX10_mean 4 = .ok (.invokevirtual 212, 3) := by decide +kernel
theorem dX10_mean_7 : decode cX10_mean 7 = .ok (.ifCond .eq 26, 3) := by decide +kernel
theorem dX10_mean_10 : decode cX10_mean 10 = .ok (.aload_n 0, 1) := by decide +kernel
theorem dX10_mean_11 : decode cX10_mean 11 = .ok (.getfield 7, 3) := by decide +kernel
theorem dX10_mean_14 : decode cX10_mean 14 = .ok (.ifCond .le 19, 3) := by decide +kernel
theorem dX10_mean_17 : decode cX10_mean 17 = .ok (.aload_n 0, 1) := by decide +kernel
theorem dX10_mean_18 : decode cX10_mean 18 = .ok (.aload_n 0, 1) := by decide +kernel
theorem dX10_mean_19 : decode cX10_mean 19 = .ok (.invokevirtual 335, 3) := by decide +kernel
theorem dX10_mean_22 : decode cX10_mean 22 = .ok (.aload_n 0, 1) := by decide +kernel
theorem dX10_mean_23 : decode cX10_mean 23 = .ok (.getfield 7, 3) := by decide +kernel
theorem dX10_mean_26 : decode cX10_mean 26 = .ok (.iload_n 1, 1) := by decide +kernel
theorem dX10_mean_27 : decode cX10_mean 27 = .ok (.invokevirtual 362, 3) := by decide +kernel
theorem dX10_mean_30 : decode cX10_mean 30 = .ok (.goto 6, 3) := by decide +kernel
theorem dX10_mean_33 : decode cX10_mean 33 = .ok (.ldc2_w 360, 3) := by decide +kernel
theorem dX10_mean_36 : decode cX10_mean 36 = .ok (.lreturn, 1) := by decide +kernel
theorem dX10_month_0 : decode cX10_month 0 = .ok (.iload_n 1, 1) := by decide +kernel
theorem dX10_month_1 : decode cX10_month 1 = .ok (.iconst (-1), 1) := by decide +kernel
theorem dX10_month_2 : decode cX10_month 2 = .ok (.if_icmp .ne 10, 3) := by decide +kernel
theorem dX10_month_5 : decode cX10_month 5 = .ok (.aload_n 0, 1) := by decide +kernel
theorem dX10_month_6 : decode cX10_month 6 = .ok (.iconst 0, 1) := by decide +kernel
theorem dX10_month_7 : decode cX10_month 7 = .ok (.putfield 124, 3) := by decide +kernel
theorem dX10_month_10 : decode cX10_month 10 = .ok (.iconst 0, 1) := by decide +kernel
theorem dX10_month_11 : decode cX10_month 11 = .ok (.ireturn, 1) := by decide +kernel
theorem dX10_month_12 : decode cX10_month 12 = .ok (.iload_n 1, 1) := by decide +kernel
theorem dX10_month_13 : decode cX10_month 13 = .ok (.bipush 6, 2) := by decide +kernel
theorem dX10_month_15 : decode cX10_month 15 = .ok (.if_icmp .eq 13, 3) := by decide +kernel
theorem dX10_month_18 : decode cX10_month 18 = .ok (.aload_n 0, 1) := by decide +kernel
theorem dX10_month_19 : decode cX10_month 19 = .ok (.iload_n 1, 1) := by decide +kernel
theorem dX10_month_20 : decode cX10_month 20 = .ok (.invokevirtual 220, 3) := by decide +kernel
theorem dX10_month_23 : decode cX10_month 23 = .ok (.ifCond .ne 5, 3) := by decide +kernel
theorem dX10_month_26 : decode cX10_month 26 = .ok (.iconst (-1), 1) := by decide +kernel
theorem dX10_month_27 : decode cX10_month 27 = .ok (.ireturn, 1) := by decide +kernel
theorem dX10_month_28 : decode cX10_month 28 = .ok (.aload_n 0, 1) := by decide +kernel
theorem dX10_month_29 : decode cX10_month 29 = .ok (.getfield 124, 3) := by decide +kernel
theorem dX10_month_32 : decode cX10_month 32 = .ok (.bipush 10, 2) := by decide +kernel
theorem dX10_month_34 : decode cX10_month 34 = .ok (.if_icmp .ne 6, 3) := by decide +kernel
theorem dX10_month_37 : decode cX10_month 37 = .ok (.bipush (-4), 2) := by decide +kernel
theorem dX10_month_39 : decode cX10_month 39 = .ok (.ireturn, 1) := by decide +kernel
theorem dX10_month_40 : decode cX10_month 40 = .ok (.aload_n 0, 1) := by decide +kernel
theorem dX10_month_41 : decode cX10_month 41 = .ok (.getfield 130, 3) := by decide +kernel
theorem dX10_month_44 : decode cX10_month 44 = .ok (.aload_n 0, 1) := by decide +kernel
theorem dX10_month_45 : decode cX10_month 45 = .ok (.getfield 124, 3) := by decide +kernel
theorem dX10_month_48 : decode cX10_month 48 = .ok (.iload_n 1, 1) := by decide +kernel
theorem dX10_month_49 : decode cX10_month 49 = .ok (.iastore, 1) := by decide +kernel
theorem dX10_month_50 : decode cX10_month 50 = .ok (.aload_n 0, 1) := by decide +kernel
theorem dX10_month_51 : decode cX10_month 51 = .ok (.dup, 1) := by decide +kernel
theorem dX10_month_52 : decode cX10_month 52 = .ok (.getfield 124, 3) := by decide +kernel
theorem dX10_month_55 : decode cX10_month 55 = .ok (.iconst 1, 1) := by decide +kernel
theorem dX10_month_56 : decode cX10_month 56 = .ok (.iadd, 1) := by decide +kernel
theorem dX10_month_57 : decode cX10_month 57 = .ok (.putfield 124, 3) := by decide +kernel
theorem dX10_month_60 : decode cX10_month 60 = .ok (.aload_n 0, 1) := by decide +kernel
theorem dX10_month_61 : decode cX10_month 61 = .ok (.getfield 124, 3) := by decide +kernel
theorem dX10_month_64 : decode cX10_month 64 = .ok (.ireturn, 1) := by decide +kernel
theorem dX10_ends_0 : decode cX10_ends 0 = .ok (.aload_n 0, 1) := by decide +kernel
theorem dX10_ends_1 : decode cX10_ends 1 = .ok (.iload_n 1, 1) := by decide +kernel
theorem dX10_ends_2 : decode cX10_ends 2 = .ok (.iconst 0, 1) := by decide +kernel
theorem dX10_ends_3 : decode cX10_ends 3 = .ok (.iconst 1, 1) := by decide +kernel
theorem dX10_ends_4 : decode cX10_ends 4 = .ok (.invokevirtual 212, 3) := by decide +kernel
theorem dX10_ends_7 : decode cX10_ends 7 = .ok (.ifCond .ne 5, 3) := by decide +kernel
theorem dX10_ends_10 : decode cX10_ends 10 = .ok (.iconst (-1), 1) := by decide +kernel
theorem dX10_ends_11 : decode cX10_ends 11 = .ok (.ireturn, 1) := by decide +kernel
theorem dX10_ends_12 : decode cX10_ends 12 = .ok (.aload_n 0, 1) := by decide +kernel
theorem dX10_ends_13 : decode cX10_ends 13 = .ok (.invokevirtual 321, 3) := by decide +kernel
theorem dX10_ends_16 : decode cX10_ends 16 = .ok (.iconst 0, 1) := by decide +kernel
theorem dX10_ends_17 : decode cX10_ends 17 = .ok (.istore_n 2, 1) := by decide +kernel
theorem dX10_ends_18 : decode cX10_ends 18 = .ok (.iload_n 2, 1) := by decide +kernel
theorem dX10_ends_19 : decode cX10_ends 19 = .ok (.aload_n 0, 1) := by decide +kernel
theorem dX10_ends_20 : decode cX10_ends 20 = .ok (.getfield 124, 3) := by decide +kernel
theorem dX10_ends_23 : decode cX10_ends 23 = .ok (.if_icmp .ge 38, 3) := by decide +kernel
theorem dX10_ends_26 : decode cX10_ends 26 = .ok (.aload_n 0, 1) := by decide +kernel
theorem dX10_ends_27 : decode cX10_ends 27 = .ok (.getfield 130, 3) := by decide +kernel
theorem dX10_ends_30 : decode cX10_ends 30 = .ok (.iload_n 2, 1) := by decide +kernel
theorem dX10_ends_31 : decode cX10_ends 31 = .ok (.iaload, 1) := by decide +kernel
theorem dX10_ends_32 : decode cX10_ends 32 = .ok (.bipush 6, 2) := by decide +kernel
theorem dX10_ends_34 : decode cX10_ends 34 = .ok (.if_icmp .ne 10, 3) := by decide +kernel
theorem dX10_ends_37 : decode cX10_ends 37 = .ok (.aload_n 0, 1) := by decide +kernel
theorem dX10_ends_38 : decode cX10_ends 38 = .ok (.invokevirtual 312, 3) := by decide +kernel
theorem dX10_ends_41 : decode cX10_ends 41 = .ok (.goto 14, 3) := by decide +kernel
theorem dX10_ends_44 : decode cX10_ends 44 = .ok (.aload_n 0, 1) := by decide +kernel
theorem dX10_ends_45 : decode cX10_ends 45 = .ok (.aload_n 0, 1) := by decide +kernel
theorem dX10_ends_46 : decode cX10_ends 46 = .ok (.getfield 130, 3) := by decide +kernel
theorem dX10_ends_49 : decode cX10_ends 49 = .ok (.iload_n 2, 1) := by decide +kernel
theorem dX10_ends_50 : decode cX10_ends 50 = .ok (.iaload, 1) := by decide +kernel
theorem dX10_ends_51 : decode cX10_ends 51 = .ok (.invokevirtual 315, 3) := by decide +kernel
theorem dX10_ends_54 : decode cX10_ends 54 = .ok (.pop, 1) := by decide +kernel
theorem dX10_ends_55 : decode cX10_ends 55 = .ok (.iinc 2 1, 3) := by decide +kernel
theorem dX10_ends_58 : decode cX10_ends 58 = .ok (.goto (-40), 3) := by decide +kernel
theorem dX10_ends_61 : decode cX10_ends 61 = .ok (.iload_n 1, 1) := by decide +kernel
theorem dX10_ends_62 : decode cX10_ends 62 = .ok (.ifCond .ne 10, 3) := by decide +kernel
theorem dX10_ends_65 : decode cX10_ends 65 = .ok (.aload_n 0, 1) := by decide +kernel
theorem dX10_ends_66 : decode cX10_ends 66 = .ok (.invokevirtual 332, 3) := by decide +kernel
theorem dX10_ends_69 : decode cX10_ends 69 = .ok (.goto 7, 3) := by decide +kernel
theorem dX10_ends_72 : decode cX10_ends 72 = .ok (.aload_n 0, 1) := by decide +kernel
theorem dX10_ends_73 : decode cX10_ends 73 = .ok (.invokevirtual 335, 3) := by decide +kernel
theorem dX10_ends_76 : decode cX10_ends 76 = .ok (.istore_n 2, 1) := by decide +kernel
theorem dX10_ends_77 : decode cX10_ends 77 = .ok (.aload_n 0, 1) := by decide +kernel
theorem dX10_ends_78 : decode cX10_ends 78 = .ok (.invokevirtual 324, 3) := by decide +kernel
theorem dX10_ends_81 : decode cX10_ends 81 = .ok (.iload_n 2, 1) := by decide +kernel
theorem dX10_ends_82 : decode cX10_ends 82 = .ok (.ireturn, 1) := by decide +kernel
theorem dX10_book_0 : decode cX10_book 0 = .ok (.iload_n 1, 1) := by decide +kernel
theorem dX10_book_1 : decode cX10_book 1 = .ok (.iconst (-1), 1) := by decide +kernel
theorem dX10_book_2 : decode cX10_book 2 = .ok (.if_icmp .ne 10, 3) := by decide +kernel
theorem dX10_book_5 : decode cX10_book 5 = .ok (.aload_n 0, 1) := by decide +kernel
theorem dX10_book_6 : decode cX10_book 6 = .ok (.iconst 0, 1) := by decide +kernel
theorem dX10_book_7 : decode cX10_book 7 = .ok (.putfield 127, 3) := by decide +kernel
theorem dX10_book_10 : decode cX10_book 10 = .ok (.iconst 0, 1) := by decide +kernel
theorem dX10_book_11 : decode cX10_book 11 = .ok (.ireturn, 1) := by decide +kernel
theorem dX10_book_12 : decode cX10_book 12 = .ok (.aload_n 0, 1) := by decide +kernel
theorem dX10_book_13 : decode cX10_book 13 = .ok (.iload_n 1, 1) := by decide +kernel
theorem dX10_book_14 : decode cX10_book 14 = .ok (.invokevirtual 220, 3) := by decide +kernel
theorem dX10_book_17 : decode cX10_book 17 = .ok (.ifCond .ne 5, 3) := by decide +kernel
theorem dX10_book_20 : decode cX10_book 20 = .ok (.iconst (-1), 1) := by decide +kernel
theorem dX10_book_21 : decode cX10_book 21 = .ok (.ireturn, 1) := by decide +kernel
theorem dX10_book_22 : decode cX10_book 22 = .ok (.aload_n 0, 1) := by decide +kernel
theorem dX10_book_23 : decode cX10_book 23 = .ok (.iload_n 2, 1) := by decide +kernel
theorem dX10_book_24 : decode cX10_book 24 = .ok (.invokevirtual 291, 3) := by decide +kernel
theorem dX10_book_27 : decode cX10_book 27 = .ok (.ifCond .ne 6, 3) := by decide +kernel
theorem dX10_book_30 : decode cX10_book 30 = .ok (.bipush (-2), 2) := by decide +kernel
theorem dX10_book_32 : decode cX10_book 32 = .ok (.ireturn, 1) := by decide +kernel
theorem dX10_book_33 : decode cX10_book 33 = .ok (.aload_n 0, 1) := by decide +kernel
theorem dX10_book_34 : decode cX10_book 34 = .ok (.getfield 127, 3) := by decide +kernel
theorem dX10_book_37 : decode cX10_book 37 = .ok (.bipush 8, 2) := by decide +kernel
theorem dX10_book_39 : decode cX10_book 39 = .ok (.if_icmp .ne 6, 3) := by decide +kernel
theorem dX10_book_42 : decode cX10_book 42 = .ok (.bipush (-4), 2) := by decide +kernel
theorem dX10_book_44 : decode cX10_book 44 = .ok (.ireturn, 1) := by decide +kernel
theorem dX10_book_45 : decode cX10_book 45 = .ok (.aload_n 0, 1) := by decide +kernel
theorem dX10_book_46 : decode cX10_book 46 = .ok (.getfield 133, 3) := by decide +kernel
theorem dX10_book_49 : decode cX10_book 49 = .ok (.aload_n 0, 1) := by decide +kernel
theorem dX10_book_50 : decode cX10_book 50 = .ok (.getfield 127, 3) := by decide +kernel
theorem dX10_book_53 : decode cX10_book 53 = .ok (.iload_n 1, 1) := by decide +kernel
theorem dX10_book_54 : decode cX10_book 54 = .ok (.iastore, 1) := by decide +kernel
theorem dX10_book_55 : decode cX10_book 55 = .ok (.aload_n 0, 1) := by decide +kernel
theorem dX10_book_56 : decode cX10_book 56 = .ok (.getfield 136, 3) := by decide +kernel
theorem dX10_book_59 : decode cX10_book 59 = .ok (.aload_n 0, 1) := by decide +kernel
theorem dX10_book_60 : decode cX10_book 60 = .ok (.getfield 127, 3) := by decide +kernel
theorem dX10_book_63 : decode cX10_book 63 = .ok (.iload_n 2, 1) := by decide +kernel
theorem dX10_book_64 : decode cX10_book 64 = .ok (.iastore, 1) := by decide +kernel
theorem dX10_book_65 : decode cX10_book 65 = .ok (.aload_n 0, 1) := by decide +kernel
theorem dX10_book_66 : decode cX10_book 66 = .ok (.dup, 1) := by decide +kernel
theorem dX10_book_67 : decode cX10_book 67 = .ok (.getfield 127, 3) := by decide +kernel
theorem dX10_book_70 : decode cX10_book 70 = .ok (.iconst 1, 1) := by decide +kernel
theorem dX10_book_71 : decode cX10_book 71 = .ok (.iadd, 1) := by decide +kernel
theorem dX10_book_72 : decode cX10_book 72 = .ok (.putfield 127, 3) := by decide +kernel
theorem dX10_book_75 : decode cX10_book 75 = .ok (.aload_n 0, 1) := by decide +kernel
theorem dX10_book_76 : decode cX10_book 76 = .ok (.getfield 127, 3) := by decide +kernel
theorem dX10_book_79 : decode cX10_book 79 = .ok (.ireturn, 1) := by decide +kernel
theorem dX10_looked_0 : decode cX10_looked 0 = .ok (.iconst 0, 1) := by decide +kernel
theorem dX10_looked_1 : decode cX10_looked 1 = .ok (.istore_n 1, 1) := by decide +kernel
theorem dX10_looked_2 : decode cX10_looked 2 = .ok (.iload_n 1, 1) := by decide +kernel
theorem dX10_looked_3 : decode cX10_looked 3 = .ok (.aload_n 0, 1) := by decide +kernel
theorem dX10_looked_4 : decode cX10_looked 4 = .ok (.getfield 127, 3) := by decide +kernel
theorem dX10_looked_7 : decode cX10_looked 7 = .ok (.if_icmp .ge 31, 3) := by decide +kernel
theorem dX10_looked_10 : decode cX10_looked 10 = .ok (.aload_n 0, 1) := by decide +kernel
theorem dX10_looked_11 : decode cX10_looked 11 = .ok (.getfield 26, 3) := by decide +kernel
theorem dX10_looked_14 : decode cX10_looked 14 = .ok (.aload_n 0, 1) := by decide +kernel
theorem dX10_looked_15 : decode cX10_looked 15 = .ok (.getfield 133, 3) := by decide +kernel
theorem dX10_looked_18 : decode cX10_looked 18 = .ok (.iload_n 1, 1) := by decide +kernel
theorem dX10_looked_19 : decode cX10_looked 19 = .ok (.iaload, 1) := by decide +kernel
theorem dX10_looked_20 : decode cX10_looked 20 = .ok (.iaload, 1) := by decide +kernel
theorem dX10_looked_21 : decode cX10_looked 21 = .ok (.aload_n 0, 1) := by decide +kernel
theorem dX10_looked_22 : decode cX10_looked 22 = .ok (.getfield 136, 3) := by decide +kernel
theorem dX10_looked_25 : decode cX10_looked 25 = .ok (.iload_n 1, 1) := by decide +kernel
theorem dX10_looked_26 : decode cX10_looked 26 = .ok (.iaload, 1) := by decide +kernel
theorem dX10_looked_27 : decode cX10_looked 27 = .ok (.if_icmp .eq 5, 3) := by decide +kernel
theorem dX10_looked_30 : decode cX10_looked 30 = .ok (.iload_n 1, 1) := by decide +kernel
theorem dX10_looked_31 : decode cX10_looked 31 = .ok (.ireturn, 1) := by decide +kernel
theorem dX10_looked_32 : decode cX10_looked 32 = .ok (.iinc 1 1, 3) := by decide +kernel
theorem dX10_looked_35 : decode cX10_looked 35 = .ok (.goto (-33), 3) := by decide +kernel
theorem dX10_looked_38 : decode cX10_looked 38 = .ok (.bipush (-5), 2) := by decide +kernel
theorem dX10_looked_40 : decode cX10_looked 40 = .ok (.ireturn, 1) := by decide +kernel
theorem dX10_judge_0 : decode cX10_judge 0 = .ok (.aload_n 0, 1) := by decide +kernel
theorem dX10_judge_1 : decode cX10_judge 1 = .ok (.iload_n 1, 1) := by decide +kernel
theorem dX10_judge_2 : decode cX10_judge 2 = .ok (.invokevirtual 366, 3) := by decide +kernel
theorem dX10_judge_5 : decode cX10_judge 5 = .ok (.ifCond .ne 5, 3) := by decide +kernel
theorem dX10_judge_8 : decode cX10_judge 8 = .ok (.iconst (-1), 1) := by decide +kernel
theorem dX10_judge_9 : decode cX10_judge 9 = .ok (.ireturn, 1) := by decide +kernel
theorem dX10_judge_10 : decode cX10_judge 10 = .ok (.aload_n 0, 1) := by decide +kernel
theorem dX10_judge_11 : decode cX10_judge 11 = .ok (.getfield 199, 3) := by decide +kernel
theorem dX10_judge_14 : decode cX10_judge 14 = .ok (.iload_n 1, 1) := by decide +kernel
theorem dX10_judge_15 : decode cX10_judge 15 = .ok (.iaload, 1) := by decide +kernel
theorem dX10_judge_16 : decode cX10_judge 16 = .ok (.ifCond .lt 16, 3) := by decide +kernel
theorem dX10_judge_19 : decode cX10_judge 19 = .ok (.aload_n 0, 1) := by decide +kernel
theorem dX10_judge_20 : decode cX10_judge 20 = .ok (.getfield 199, 3) := by decide +kernel
theorem dX10_judge_23 : decode cX10_judge 23 = .ok (.iload_n 1, 1) := by decide +kernel
theorem dX10_judge_24 : decode cX10_judge 24 = .ok (.iaload, 1) := by decide +kernel
theorem dX10_judge_25 : decode cX10_judge 25 = .ok (.iconst 1, 1) := by decide +kernel
theorem dX10_judge_26 : decode cX10_judge 26 = .ok (.if_icmp .eq 6, 3) := by decide +kernel
theorem dX10_judge_29 : decode cX10_judge 29 = .ok (.bipush (-12), 2) := by decide +kernel
theorem dX10_judge_31 : decode cX10_judge 31 = .ok (.ireturn, 1) := by decide +kernel
theorem dX10_judge_32 : decode cX10_judge 32 = .ok (.iconst 0, 1) := by decide +kernel
theorem dX10_judge_33 : decode cX10_judge 33 = .ok (.istore_n 3, 1) := by decide +kernel
theorem dX10_judge_34 : decode cX10_judge 34 = .ok (.iload_n 3, 1) := by decide +kernel
theorem dX10_judge_35 : decode cX10_judge 35 = .ok (.aload_n 0, 1) := by decide +kernel
theorem dX10_judge_36 : decode cX10_judge 36 = .ok (.getfield 7, 3) := by decide +kernel
theorem dX10_judge_39 : decode cX10_judge 39 = .ok (.if_icmp .ge 67, 3) := by decide +kernel
theorem dX10_judge_42 : decode cX10_judge 42 = .ok (.aload_n 0, 1) := by decide +kernel
theorem dX10_judge_43 : decode cX10_judge 43 = .ok (.getfield 199, 3) := by decide +kernel
theorem dX10_judge_46 : decode cX10_judge 46 = .ok (.iload_n 1, 1) := by decide +kernel
theorem dX10_judge_47 : decode cX10_judge 47 = .ok (.iaload, 1) := by decide +kernel
theorem dX10_judge_48 : decode cX10_judge 48 = .ok (.ifCond .lt 21, 3) := by decide +kernel
theorem dX10_judge_51 : decode cX10_judge 51 = .ok (.iload_n 2, 1) := by decide +kernel
theorem dX10_judge_52 : decode cX10_judge 52 = .ok (.ifCond .lt 17, 3) := by decide +kernel
theorem dX10_judge_55 : decode cX10_judge 55 = .ok (.iload_n 2, 1) := by decide +kernel
theorem dX10_judge_56 : decode cX10_judge 56 = .ok (.aload_n 0, 1) := by decide +kernel
theorem dX10_judge_57 : decode cX10_judge 57 = .ok (.getfield 202, 3) := by decide +kernel
theorem dX10_judge_60 : decode cX10_judge 60 = .ok (.iload_n 1, 1) := by decide +kernel
theorem dX10_judge_61 : decode cX10_judge 61 = .ok (.iaload, 1) := by decide +kernel
theorem dX10_judge_62 : decode cX10_judge 62 = .ok (.iload_n 3, 1) := by decide +kernel
theorem dX10_judge_63 : decode cX10_judge 63 = .ok (.isub, 1) := by decide +kernel
theorem dX10_judge_64 : decode cX10_judge 64 = .ok (.iconst 1, 1) := by decide +kernel
theorem dX10_judge_65 : decode cX10_judge 65 = .ok (.isub, 1) := by decide +kernel
theorem dX10_judge_66 : decode cX10_judge 66 = .ok (.if_icmp .le 8, 3) := by decide +kernel
theorem dX10_judge_69 : decode cX10_judge 69 = .ok (.bipush 100, 2) := by decide +kernel
theorem dX10_judge_71 : decode cX10_judge 71 = .ok (.iload_n 3, 1) := by decide +kernel
theorem dX10_judge_72 : decode cX10_judge 72 = .ok (.iadd, 1) := by decide +kernel
theorem dX10_judge_73 : decode cX10_judge 73 = .ok (.ireturn, 1) := by decide +kernel
theorem dX10_judge_74 : decode cX10_judge 74 = .ok (.aload_n 0, 1) := by decide +kernel
theorem dX10_judge_75 : decode cX10_judge 75 = .ok (.getfield 205, 3) := by decide +kernel
theorem dX10_judge_78 : decode cX10_judge 78 = .ok (.bipush 60, 2) := by decide +kernel
theorem dX10_judge_80 : decode cX10_judge 80 = .ok (.iload_n 1, 1) := by decide +kernel
theorem dX10_judge_81 : decode cX10_judge 81 = .ok (.imul, 1) := by decide +kernel
theorem dX10_judge_82 : decode cX10_judge 82 = .ok (.iload_n 2, 1) := by decide +kernel
theorem dX10_judge_83 : decode cX10_judge 83 = .ok (.iadd, 1) := by decide +kernel
theorem dX10_judge_84 : decode cX10_judge 84 = .ok (.iload_n 3, 1) := by decide +kernel
theorem dX10_judge_85 : decode cX10_judge 85 = .ok (.iadd, 1) := by decide +kernel
theorem dX10_judge_86 : decode cX10_judge 86 = .ok (.laload, 1) := by decide +kernel
theorem dX10_judge_87 : decode cX10_judge 87 = .ok (.aload_n 0, 1) := by decide +kernel
theorem dX10_judge_88 : decode cX10_judge 88 = .ok (.getfield 26, 3) := by decide +kernel
theorem dX10_judge_91 : decode cX10_judge 91 = .ok (.iload_n 3, 1) := by decide +kernel
theorem dX10_judge_92 : decode cX10_judge 92 = .ok (.iaload, 1) := by decide +kernel
theorem dX10_judge_93 : decode cX10_judge 93 = .ok (.i2l, 1) := by decide +kernel
theorem dX10_judge_94 : decode cX10_judge 94 = .ok (.lcmp, 1) := by decide +kernel
theorem dX10_judge_95 : decode cX10_judge 95 = .ok (.ifCond .eq 5, 3) := by decide +kernel
theorem dX10_judge_98 : decode cX10_judge 98 = .ok (.iload_n 3, 1) := by decide +kernel
theorem dX10_judge_99 : decode cX10_judge 99 = .ok (.ireturn, 1) := by decide +kernel
theorem dX10_judge_100 : decode cX10_judge 100 = .ok (.iinc 3 1, 3) := by decide +kernel
theorem dX10_judge_103 : decode cX10_judge 103 = .ok (.goto (-69), 3) := by decide +kernel
theorem dX10_judge_106 : decode cX10_judge 106 = .ok (.bipush (-5), 2) := by decide +kernel
theorem dX10_judge_108 : decode cX10_judge 108 = .ok (.ireturn, 1) := by decide +kernel
theorem dX10_image_0 : decode cX10_image 0 = .ok (.aload_n 0, 1) := by decide +kernel
theorem dX10_image_1 : decode cX10_image 1 = .ok (.iconst 1, 1) := by decide +kernel
theorem dX10_image_2 : decode cX10_image 2 = .ok (.putfield 139, 3) := by decide +kernel
theorem dX10_image_5 : decode cX10_image 5 = .ok (.aload_n 0, 1) := by decide +kernel
theorem dX10_image_6 : decode cX10_image 6 = .ok (.aload_n 0, 1) := by decide +kernel
theorem dX10_image_7 : decode cX10_image 7 = .ok (.getfield 35, 3) := by decide +kernel
theorem dX10_image_10 : decode cX10_image 10 = .ok (.putfield 142, 3) := by decide +kernel
theorem dX10_image_13 : decode cX10_image 13 = .ok (.aload_n 0, 1) := by decide +kernel
theorem dX10_image_14 : decode cX10_image 14 = .ok (.aload_n 0, 1) := by decide +kernel
theorem dX10_image_15 : decode cX10_image 15 = .ok (.getfield 7, 3) := by decide +kernel
theorem dX10_image_18 : decode cX10_image 18 = .ok (.putfield 145, 3) := by decide +kernel
theorem dX10_image_21 : decode cX10_image 21 = .ok (.aload_n 0, 1) := by decide +kernel
theorem dX10_image_22 : decode cX10_image 22 = .ok (.aload_n 0, 1) := by decide +kernel
theorem dX10_image_23 : decode cX10_image 23 = .ok (.getfield 13, 3) := by decide +kernel
theorem dX10_image_26 : decode cX10_image 26 = .ok (.putfield 148, 3) := by decide +kernel
theorem dX10_image_29 : decode cX10_image 29 = .ok (.aload_n 0, 1) := by decide +kernel
theorem dX10_image_30 : decode cX10_image 30 = .ok (.aload_n 0, 1) := by decide +kernel
theorem dX10_image_31 : decode cX10_image 31 = .ok (.getfield 16, 3) := by decide +kernel
theorem dX10_image_34 : decode cX10_image 34 = .ok (.putfield 151, 3) := by decide +kernel
theorem dX10_image_37 : decode cX10_image 37 = .ok (.aload_n 0, 1) := by decide +kernel
theorem dX10_image_38 : decode cX10_image 38 = .ok (.aload_n 0, 1) := by decide +kernel
theorem dX10_image_39 : decode cX10_image 39 = .ok (.getfield 112, 3) := by decide +kernel
theorem dX10_image_42 : decode cX10_image 42 = .ok (.putfield 154, 3) := by decide +kernel
theorem dX10_image_45 : decode cX10_image 45 = .ok (.aload_n 0, 1) := by decide +kernel
theorem dX10_image_46 : decode cX10_image 46 = .ok (.aload_n 0, 1) := by decide +kernel
theorem dX10_image_47 : decode cX10_image 47 = .ok (.getfield 124, 3) := by decide +kernel
theorem dX10_image_50 : decode cX10_image 50 = .ok (.putfield 157, 3) := by decide +kernel
theorem dX10_image_53 : decode cX10_image 53 = .ok (.aload_n 0, 1) := by decide +kernel
theorem dX10_image_54 : decode cX10_image 54 = .ok (.aload_n 0, 1) := by decide +kernel
theorem dX10_image_55 : decode cX10_image 55 = .ok (.getfield 127, 3) := by decide +kernel
theorem dX10_image_58 : decode cX10_image 58 = .ok (.putfield 160, 3) := by decide +kernel
theorem dX10_image_61 : decode cX10_image 61 = .ok (.iconst 0, 1) := by decide +kernel
theorem dX10_image_62 : decode cX10_image 62 = .ok (.istore_n 1, 1) := by decide +kernel
theorem dX10_image_63 : decode cX10_image 63 = .ok (.iload_n 1, 1) := by decide +kernel
theorem dX10_image_64 : decode cX10_image 64 = .ok (.bipush 6, 2) := by decide +kernel
theorem dX10_image_66 : decode cX10_image 66 = .ok (.if_icmp .ge 45, 3) := by decide +kernel
theorem dX10_image_69 : decode cX10_image 69 = .ok (.aload_n 0, 1) := by decide +kernel
theorem dX10_image_70 : decode cX10_image 70 = .ok (.getfield 163, 3) := by decide +kernel
theorem dX10_image_73 : decode cX10_image 73 = .ok (.iload_n 1, 1) := by decide +kernel
theorem dX10_image_74 : decode cX10_image 74 = .ok (.aload_n 0, 1) := by decide +kernel
theorem dX10_image_75 : decode cX10_image 75 = .ok (.getfield 19, 3) := by decide +kernel
theorem dX10_image_78 : decode cX10_image 78 = .ok (.iload_n 1, 1) := by decide +kernel
theorem dX10_image_79 : decode cX10_image 79 = .ok (.iaload, 1) := by decide +kernel
theorem dX10_image_80 : decode cX10_image 80 = .ok (.iastore, 1) := by decide +kernel
theorem dX10_image_81 : decode cX10_image 81 = .ok (.aload_n 0, 1) := by decide +kernel
theorem dX10_image_82 : decode cX10_image 82 = .ok (.getfield 166, 3) := by decide +kernel
theorem dX10_image_85 : decode cX10_image 85 = .ok (.iload_n 1, 1) := by decide +kernel
theorem dX10_image_86 : decode cX10_image 86 = .ok (.aload_n 0, 1) := by decide +kernel
theorem dX10_image_87 : decode cX10_image 87 = .ok (.getfield 23, 3) := by decide +kernel
theorem dX10_image_90 : decode cX10_image 90 = .ok (.iload_n 1, 1) := by decide +kernel
theorem dX10_image_91 : decode cX10_image 91 = .ok (.iaload, 1) := by decide +kernel
theorem dX10_image_92 : decode cX10_image 92 = .ok (.iastore, 1) := by decide +kernel
theorem dX10_image_93 : decode cX10_image 93 = .ok (.aload_n 0, 1) := by decide +kernel
theorem dX10_image_94 : decode cX10_image 94 = .ok (.getfield 169, 3) := by decide +kernel
theorem dX10_image_97 : decode cX10_image 97 = .ok (.iload_n 1, 1) := by decide +kernel
theorem dX10_image_98 : decode cX10_image 98 = .ok (.aload_n 0, 1) := by decide +kernel
theorem dX10_image_99 : decode cX10_image 99 = .ok (.getfield 26, 3) := by decide +kernel
theorem dX10_image_102 : decode cX10_image 102 = .ok (.iload_n 1, 1) := by decide +kernel
theorem dX10_image_103 : decode cX10_image 103 = .ok (.iaload, 1) := by decide +kernel
theorem dX10_image_104 : decode cX10_image 104 = .ok (.iastore, 1) := by decide +kernel
theorem dX10_image_105 : decode cX10_image 105 = .ok (.iinc 1 1, 3) := by decide +kernel
theorem dX10_image_108 : decode cX10_image 108 = .ok (.goto (-45), 3) := by decide +kernel
theorem dX10_image_111 : decode cX10_image 111 = .ok (.iconst 0, 1) := by decide +kernel
theorem dX10_image_112 : decode cX10_image 112 = .ok (.istore_n 1, 1) := by decide +kernel
theorem dX10_image_113 : decode cX10_image 113 = .ok (.iload_n 1, 1) := by decide +kernel
theorem dX10_image_114 : decode cX10_image 114 = .ok (.bipush 24, 2) := by decide +kernel
theorem dX10_image_116 : decode cX10_image 116 = .ok (.if_icmp .ge 21, 3) := by decide +kernel
theorem dX10_image_119 : decode cX10_image 119 = .ok (.aload_n 0, 1) := by decide +kernel
theorem dX10_image_120 : decode cX10_image 120 = .ok (.getfield 172, 3) := by decide +kernel
theorem dX10_image_123 : decode cX10_image 123 = .ok (.iload_n 1, 1) := by decide +kernel
theorem dX10_image_124 : decode cX10_image 124 = .ok (.aload_n 0, 1) := by decide +kernel
theorem dX10_image_125 : decode cX10_image 125 = .ok (.getfield 29, 3) := by decide +kernel
theorem dX10_image_128 : decode cX10_image 128 = .ok (.iload_n 1, 1) := by decide +kernel
theorem dX10_image_129 : decode cX10_image 129 = .ok (.iaload, 1) := by decide +kernel
theorem dX10_image_130 : decode cX10_image 130 = .ok (.iastore, 1) := by decide +kernel
theorem dX10_image_131 : decode cX10_image 131 = .ok (.iinc 1 1, 3) := by decide +kernel
theorem dX10_image_134 : decode cX10_image 134 = .ok (.goto (-21), 3) := by decide +kernel
theorem dX10_image_137 : decode cX10_image 137 = .ok (.iconst 0, 1) := by decide +kernel
theorem dX10_image_138 : decode cX10_image 138 = .ok (.istore_n 1, 1) := by decide +kernel
theorem dX10_image_139 : decode cX10_image 139 = .ok (.iload_n 1, 1) := by decide +kernel
theorem dX10_image_140 : decode cX10_image 140 = .ok (.iconst 5, 1) := by decide +kernel
theorem dX10_image_141 : decode cX10_image 141 = .ok (.if_icmp .ge 45, 3) := by decide +kernel
theorem dX10_image_144 : decode cX10_image 144 = .ok (.aload_n 0, 1) := by decide +kernel
theorem dX10_image_145 : decode cX10_image 145 = .ok (.getfield 175, 3) := by decide +kernel
theorem dX10_image_148 : decode cX10_image 148 = .ok (.iload_n 1, 1) := by decide +kernel
theorem dX10_image_149 : decode cX10_image 149 = .ok (.aload_n 0, 1) := by decide +kernel
theorem dX10_image_150 : decode cX10_image 150 = .ok (.getfield 115, 3) := by decide +kernel
theorem dX10_image_153 : decode cX10_image 153 = .ok (.iload_n 1, 1) := by decide +kernel
theorem dX10_image_154 : decode cX10_image 154 = .ok (.iaload, 1) := by decide +kernel
theorem dX10_image_155 : decode cX10_image 155 = .ok (.iastore, 1) := by decide +kernel
theorem dX10_image_156 : decode cX10_image 156 = .ok (.aload_n 0, 1) := by decide +kernel
theorem dX10_image_157 : decode cX10_image 157 = .ok (.getfield 178, 3) := by decide +kernel
theorem dX10_image_160 : decode cX10_image 160 = .ok (.iload_n 1, 1) := by decide +kernel
theorem dX10_image_161 : decode cX10_image 161 = .ok (.aload_n 0, 1) := by decide +kernel
theorem dX10_image_162 : decode cX10_image 162 = .ok (.getfield 118, 3) := by decide +kernel
theorem dX10_image_165 : decode cX10_image 165 = .ok (.iload_n 1, 1) := by decide +kernel
theorem dX10_image_166 : decode cX10_image 166 = .ok (.iaload, 1) := by decide +kernel
theorem dX10_image_167 : decode cX10_image 167 = .ok (.iastore, 1) := by decide +kernel
theorem dX10_image_168 : decode cX10_image 168 = .ok (.aload_n 0, 1) := by decide +kernel
theorem dX10_image_169 : decode cX10_image 169 = .ok (.getfield 181, 3) := by decide +kernel
theorem dX10_image_172 : decode cX10_image 172 = .ok (.iload_n 1, 1) := by decide +kernel
theorem dX10_image_173 : decode cX10_image 173 = .ok (.aload_n 0, 1) := by decide +kernel
theorem dX10_image_174 : decode cX10_image 174 = .ok (.getfield 121, 3) := by decide +kernel
theorem dX10_image_177 : decode cX10_image 177 = .ok (.iload_n 1, 1) := by decide +kernel
theorem dX10_image_178 : decode cX10_image 178 = .ok (.iaload, 1) := by decide +kernel
theorem dX10_image_179 : decode cX10_image 179 = .ok (.iastore, 1) := by decide +kernel
theorem dX10_image_180 : decode cX10_image 180 = .ok (.iinc 1 1, 3) := by decide +kernel
theorem dX10_image_183 : decode cX10_image 183 = .ok (.goto (-44), 3) := by decide +kernel
theorem dX10_image_186 : decode cX10_image 186 = .ok (.iconst 0, 1) := by decide +kernel
theorem dX10_image_187 : decode cX10_image 187 = .ok (.istore_n 1, 1) := by decide +kernel
theorem dX10_image_188 : decode cX10_image 188 = .ok (.iload_n 1, 1) := by decide +kernel
theorem dX10_image_189 : decode cX10_image 189 = .ok (.bipush 10, 2) := by decide +kernel
theorem dX10_image_191 : decode cX10_image 191 = .ok (.if_icmp .ge 21, 3) := by decide +kernel
theorem dX10_image_194 : decode cX10_image 194 = .ok (.aload_n 0, 1) := by decide +kernel
theorem dX10_image_195 : decode cX10_image 195 = .ok (.getfield 184, 3) := by decide +kernel
theorem dX10_image_198 : decode cX10_image 198 = .ok (.iload_n 1, 1) := by decide +kernel
theorem dX10_image_199 : decode cX10_image 199 = .ok (.aload_n 0, 1) := by decide +kernel
theorem dX10_image_200 : decode cX10_image 200 = .ok (.getfield 130, 3) := by decide +kernel
theorem dX10_image_203 : decode cX10_image 203 = .ok (.iload_n 1, 1) := by decide +kernel
theorem dX10_image_204 : decode cX10_image 204 = .ok (.iaload, 1) := by decide +kernel
theorem dX10_image_205 : decode cX10_image 205 = .ok (.iastore, 1) := by decide +kernel
theorem dX10_image_206 : decode cX10_image 206 = .ok (.iinc 1 1, 3) := by decide +kernel
theorem dX10_image_209 : decode cX10_image 209 = .ok (.goto (-21), 3) := by decide +kernel
theorem dX10_image_212 : decode cX10_image 212 = .ok (.iconst 0, 1) := by decide +kernel
theorem dX10_image_213 : decode cX10_image 213 = .ok (.istore_n 1, 1) := by decide +kernel
theorem dX10_image_214 : decode cX10_image 214 = .ok (.iload_n 1, 1) := by decide +kernel
theorem dX10_image_215 : decode cX10_image 215 = .ok (.bipush 8, 2) := by decide +kernel
theorem dX10_image_217 : decode cX10_image 217 = .ok (.if_icmp .ge 33, 3) := by decide +kernel
theorem dX10_image_220 : decode cX10_image 220 = .ok (.aload_n 0, 1) := by decide +kernel
theorem dX10_image_221 : decode cX10_image 221 = .ok (.getfield 187, 3) := by decide +kernel
theorem dX10_image_224 : decode cX10_image 224 = .ok (.iload_n 1, 1) := by decide +kernel
theorem dX10_image_225 : decode cX10_image 225 = .ok (.aload_n 0, 1) := by decide +kernel
theorem dX10_image_226 : decode cX10_image 226 = .ok (.getfield 133, 3) := by decide +kernel
theorem dX10_image_229 : decode cX10_image 229 = .ok (.iload_n 1, 1) := by decide +kernel
theorem dX10_image_230 : decode cX10_image 230 = .ok (.iaload, 1) := by decide +kernel
theorem dX10_image_231 : decode cX10_image 231 = .ok (.iastore, 1) := by decide +kernel
theorem dX10_image_232 : decode cX10_image 232 = .ok (.aload_n 0, 1) := by decide +kernel
theorem dX10_image_233 : decode cX10_image 233 = .ok (.getfield 190, 3) := by decide +kernel
theorem dX10_image_236 : decode cX10_image 236 = .ok (.iload_n 1, 1) := by decide +kernel
theorem dX10_image_237 : decode cX10_image 237 = .ok (.aload_n 0, 1) := by decide +kernel
theorem dX10_image_238 : decode cX10_image 238 = .ok (.getfield 136, 3) := by decide +kernel
theorem dX10_image_241 : decode cX10_image 241 = .ok (.iload_n 1, 1) := by decide +kernel
theorem dX10_image_242 : decode cX10_image 242 = .ok (.iaload, 1) := by decide +kernel
theorem dX10_image_243 : decode cX10_image 243 = .ok (.iastore, 1) := by decide +kernel
theorem dX10_image_244 : decode cX10_image 244 = .ok (.iinc 1 1, 3) := by decide +kernel
theorem dX10_image_247 : decode cX10_image 247 = .ok (.goto (-33), 3) := by decide +kernel
theorem dX10_image_250 : decode cX10_image 250 = .ok (.aload_n 0, 1) := by decide +kernel
theorem dX10_image_251 : decode cX10_image 251 = .ok (.getfield 7, 3) := by decide +kernel
theorem dX10_image_254 : decode cX10_image 254 = .ok (.ireturn, 1) := by decide +kernel
theorem dX10_undo_0 : decode cX10_undo 0 = .ok (.aload_n 0, 1) := by decide +kernel
theorem dX10_undo_1 : decode cX10_undo 1 = .ok (.getfield 139, 3) := by decide +kernel
theorem dX10_undo_4 : decode cX10_undo 4 = .ok (.ifCond .ne 6, 3) := by decide +kernel
theorem dX10_undo_7 : decode cX10_undo 7 = .ok (.bipush (-3), 2) := by decide +kernel
theorem dX10_undo_9 : decode cX10_undo 9 = .ok (.ireturn, 1) := by decide +kernel
theorem dX10_undo_10 : decode cX10_undo 10 = .ok (.aload_n 0, 1) := by decide +kernel
theorem dX10_undo_11 : decode cX10_undo 11 = .ok (.aload_n 0, 1) := by decide +kernel
theorem dX10_undo_12 : decode cX10_undo 12 = .ok (.getfield 142, 3) := by decide +kernel
theorem dX10_undo_15 : decode cX10_undo 15 = .ok (.putfield 35, 3) := by decide +kernel
theorem dX10_undo_18 : decode cX10_undo 18 = .ok (.aload_n 0, 1) := by decide +kernel
theorem dX10_undo_19 : decode cX10_undo 19 = .ok (.aload_n 0, 1) := by decide +kernel
theorem dX10_undo_20 : decode cX10_undo 20 = .ok (.getfield 145, 3) := by decide +kernel
theorem dX10_undo_23 : decode cX10_undo 23 = .ok (.putfield 7, 3) := by decide +kernel
theorem dX10_undo_26 : decode cX10_undo 26 = .ok (.aload_n 0, 1) := by decide +kernel
theorem dX10_undo_27 : decode cX10_undo 27 = .ok (.aload_n 0, 1) := by decide +kernel
theorem dX10_undo_28 : decode cX10_undo 28 = .ok (.getfield 148, 3) := by decide +kernel
theorem dX10_undo_31 : decode cX10_undo 31 = .ok (.putfield 13, 3) := by decide +kernel
theorem dX10_undo_34 : decode cX10_undo 34 = .ok (.aload_n 0, 1) := by decide +kernel
theorem dX10_undo_35 : decode cX10_undo 35 = .ok (.aload_n 0, 1) := by decide +kernel
theorem dX10_undo_36 : decode cX10_undo 36 = .ok (.getfield 151, 3) := by decide +kernel
theorem dX10_undo_39 : decode cX10_undo 39 = .ok (.putfield 16, 3) := by decide +kernel
theorem dX10_undo_42 : decode cX10_undo 42 = .ok (.aload_n 0, 1) := by decide +kernel
theorem dX10_undo_43 : decode cX10_undo 43 = .ok (.aload_n 0, 1) := by decide +kernel
theorem dX10_undo_44 : decode cX10_undo 44 = .ok (.getfield 154, 3) := by decide +kernel
theorem dX10_undo_47 : decode cX10_undo 47 = .ok (.putfield 112, 3) := by decide +kernel
theorem dX10_undo_50 : decode cX10_undo 50 = .ok (.aload_n 0, 1) := by decide +kernel
theorem dX10_undo_51 : decode cX10_undo 51 = .ok (.aload_n 0, 1) := by decide +kernel
theorem dX10_undo_52 : decode cX10_undo 52 = .ok (.getfield 157, 3) := by decide +kernel
theorem dX10_undo_55 : decode cX10_undo 55 = .ok (.putfield 124, 3) := by decide +kernel
theorem dX10_undo_58 : decode cX10_undo 58 = .ok (.aload_n 0, 1) := by decide +kernel
theorem dX10_undo_59 : decode cX10_undo 59 = .ok (.aload_n 0, 1) := by decide +kernel
theorem dX10_undo_60 : decode cX10_undo 60 = .ok (.getfield 160, 3) := by decide +kernel
theorem dX10_undo_63 : decode cX10_undo 63 = .ok (.putfield 127, 3) := by decide +kernel
theorem dX10_undo_66 : decode cX10_undo 66 = .ok (.iconst 0, 1) := by decide +kernel
theorem dX10_undo_67 : decode cX10_undo 67 = .ok (.istore_n 1, 1) := by decide +kernel
theorem dX10_undo_68 : decode cX10_undo 68 = .ok (.iload_n 1, 1) := by decide +kernel
theorem dX10_undo_69 : decode cX10_undo 69 = .ok (.bipush 6, 2) := by decide +kernel
theorem dX10_undo_71 : decode cX10_undo 71 = .ok (.if_icmp .ge 45, 3) := by decide +kernel
theorem dX10_undo_74 : decode cX10_undo 74 = .ok (.aload_n 0, 1) := by decide +kernel
theorem dX10_undo_75 : decode cX10_undo 75 = .ok (.getfield 19, 3) := by decide +kernel
theorem dX10_undo_78 : decode cX10_undo 78 = .ok (.iload_n 1, 1) := by decide +kernel
theorem dX10_undo_79 : decode cX10_undo 79 = .ok (.aload_n 0, 1) := by decide +kernel
theorem dX10_undo_80 : decode cX10_undo 80 = .ok (.getfield 163, 3) := by decide +kernel
theorem dX10_undo_83 : decode cX10_undo 83 = .ok (.iload_n 1, 1) := by decide +kernel
theorem dX10_undo_84 : decode cX10_undo 84 = .ok (.iaload, 1) := by decide +kernel
theorem dX10_undo_85 : decode cX10_undo 85 = .ok (.iastore, 1) := by decide +kernel
theorem dX10_undo_86 : decode cX10_undo 86 = .ok (.aload_n 0, 1) := by decide +kernel
theorem dX10_undo_87 : decode cX10_undo 87 = .ok (.getfield 23, 3) := by decide +kernel
theorem dX10_undo_90 : decode cX10_undo 90 = .ok (.iload_n 1, 1) := by decide +kernel
theorem dX10_undo_91 : decode cX10_undo 91 = .ok (.aload_n 0, 1) := by decide +kernel
theorem dX10_undo_92 : decode cX10_undo 92 = .ok (.getfield 166, 3) := by decide +kernel
theorem dX10_undo_95 : decode cX10_undo 95 = .ok (.iload_n 1, 1) := by decide +kernel
theorem dX10_undo_96 : decode cX10_undo 96 = .ok (.iaload, 1) := by decide +kernel
theorem dX10_undo_97 : decode cX10_undo 97 = .ok (.iastore, 1) := by decide +kernel
theorem dX10_undo_98 : decode cX10_undo 98 = .ok (.aload_n 0, 1) := by decide +kernel
theorem dX10_undo_99 : decode cX10_undo 99 = .ok (.getfield 26, 3) := by decide +kernel
theorem dX10_undo_102 : decode cX10_undo 102 = .ok (.iload_n 1, 1) := by decide +kernel
theorem dX10_undo_103 : decode cX10_undo 103 = .ok (.aload_n 0, 1) := by decide +kernel
theorem dX10_undo_104 : decode cX10_undo 104 = .ok (.getfield 169, 3) := by decide +kernel
theorem dX10_undo_107 : decode cX10_undo 107 = .ok (.iload_n 1, 1) := by decide +kernel
theorem dX10_undo_108 : decode cX10_undo 108 = .ok (.iaload, 1) := by decide +kernel
theorem dX10_undo_109 : decode cX10_undo 109 = .ok (.iastore, 1) := by decide +kernel
theorem dX10_undo_110 : decode cX10_undo 110 = .ok (.iinc 1 1, 3) := by decide +kernel
theorem dX10_undo_113 : decode cX10_undo 113 = .ok (.goto (-45), 3) := by decide +kernel
theorem dX10_undo_116 : decode cX10_undo 116 = .ok (.iconst 0, 1) := by decide +kernel
theorem dX10_undo_117 : decode cX10_undo 117 = .ok (.istore_n 1, 1) := by decide +kernel
theorem dX10_undo_118 : decode cX10_undo 118 = .ok (.iload_n 1, 1) := by decide +kernel
theorem dX10_undo_119 : decode cX10_undo 119 = .ok (.bipush 24, 2) := by decide +kernel
theorem dX10_undo_121 : decode cX10_undo 121 = .ok (.if_icmp .ge 21, 3) := by decide +kernel
theorem dX10_undo_124 : decode cX10_undo 124 = .ok (.aload_n 0, 1) := by decide +kernel
theorem dX10_undo_125 : decode cX10_undo 125 = .ok (.getfield 29, 3) := by decide +kernel
theorem dX10_undo_128 : decode cX10_undo 128 = .ok (.iload_n 1, 1) := by decide +kernel
theorem dX10_undo_129 : decode cX10_undo 129 = .ok (.aload_n 0, 1) := by decide +kernel
theorem dX10_undo_130 : decode cX10_undo 130 = .ok (.getfield 172, 3) := by decide +kernel
theorem dX10_undo_133 : decode cX10_undo 133 = .ok (.iload_n 1, 1) := by decide +kernel
theorem dX10_undo_134 : decode cX10_undo 134 = .ok (.iaload, 1) := by decide +kernel
theorem dX10_undo_135 : decode cX10_undo 135 = .ok (.iastore, 1) := by decide +kernel
theorem dX10_undo_136 : decode cX10_undo 136 = .ok (.iinc 1 1, 3) := by decide +kernel
theorem dX10_undo_139 : decode cX10_undo 139 = .ok (.goto (-21), 3) := by decide +kernel
theorem dX10_undo_142 : decode cX10_undo 142 = .ok (.iconst 0, 1) := by decide +kernel
theorem dX10_undo_143 : decode cX10_undo 143 = .ok (.istore_n 1, 1) := by decide +kernel
theorem dX10_undo_144 : decode cX10_undo 144 = .ok (.iload_n 1, 1) := by decide +kernel
theorem dX10_undo_145 : decode cX10_undo 145 = .ok (.iconst 5, 1) := by decide +kernel
theorem dX10_undo_146 : decode cX10_undo 146 = .ok (.if_icmp .ge 45, 3) := by decide +kernel
theorem dX10_undo_149 : decode cX10_undo 149 = .ok (.aload_n 0, 1) := by decide +kernel
theorem dX10_undo_150 : decode cX10_undo 150 = .ok (.getfield 115, 3) := by decide +kernel
theorem dX10_undo_153 : decode cX10_undo 153 = .ok (.iload_n 1, 1) := by decide +kernel
theorem dX10_undo_154 : decode cX10_undo 154 = .ok (.aload_n 0, 1) := by decide +kernel
theorem dX10_undo_155 : decode cX10_undo 155 = .ok (.getfield 175, 3) := by decide +kernel
theorem dX10_undo_158 : decode cX10_undo 158 = .ok (.iload_n 1, 1) := by decide +kernel
theorem dX10_undo_159 : decode cX10_undo 159 = .ok (.iaload, 1) := by decide +kernel
theorem dX10_undo_160 : decode cX10_undo 160 = .ok (.iastore, 1) := by decide +kernel
theorem dX10_undo_161 : decode cX10_undo 161 = .ok (.aload_n 0, 1) := by decide +kernel
theorem dX10_undo_162 : decode cX10_undo 162 = .ok (.getfield 118, 3) := by decide +kernel
theorem dX10_undo_165 : decode cX10_undo 165 = .ok (.iload_n 1, 1) := by decide +kernel
theorem dX10_undo_166 : decode cX10_undo 166 = .ok (.aload_n 0, 1) := by decide +kernel
theorem dX10_undo_167 : decode cX10_undo 167 = .ok (.getfield 178, 3) := by decide +kernel
theorem dX10_undo_170 : decode cX10_undo 170 = .ok (.iload_n 1, 1) := by decide +kernel
theorem dX10_undo_171 : decode cX10_undo 171 = .ok (.iaload, 1) := by decide +kernel
theorem dX10_undo_172 : decode cX10_undo 172 = .ok (.iastore, 1) := by decide +kernel
theorem dX10_undo_173 : decode cX10_undo 173 = .ok (.aload_n 0, 1) := by decide +kernel
theorem dX10_undo_174 : decode cX10_undo 174 = .ok (.getfield 121, 3) := by decide +kernel
theorem dX10_undo_177 : decode cX10_undo 177 = .ok (.iload_n 1, 1) := by decide +kernel
theorem dX10_undo_178 : decode cX10_undo 178 = .ok (.aload_n 0, 1) := by decide +kernel
theorem dX10_undo_179 : decode cX10_undo 179 = .ok (.getfield 181, 3) := by decide +kernel
theorem dX10_undo_182 : decode cX10_undo 182 = .ok (.iload_n 1, 1) := by decide +kernel
theorem dX10_undo_183 : decode cX10_undo 183 = .ok (.iaload, 1) := by decide +kernel
theorem dX10_undo_184 : decode cX10_undo 184 = .ok (.iastore, 1) := by decide +kernel
theorem dX10_undo_185 : decode cX10_undo 185 = .ok (.iinc 1 1, 3) := by decide +kernel
theorem dX10_undo_188 : decode cX10_undo 188 = .ok (.goto (-44), 3) := by decide +kernel
theorem dX10_undo_191 : decode cX10_undo 191 = .ok (.iconst 0, 1) := by decide +kernel
theorem dX10_undo_192 : decode cX10_undo 192 = .ok (.istore_n 1, 1) := by decide +kernel
theorem dX10_undo_193 : decode cX10_undo 193 = .ok (.iload_n 1, 1) := by decide +kernel
theorem dX10_undo_194 : decode cX10_undo 194 = .ok (.bipush 10, 2) := by decide +kernel
theorem dX10_undo_196 : decode cX10_undo 196 = .ok (.if_icmp .ge 21, 3) := by decide +kernel
theorem dX10_undo_199 : decode cX10_undo 199 = .ok (.aload_n 0, 1) := by decide +kernel
theorem dX10_undo_200 : decode cX10_undo 200 = .ok (.getfield 130, 3) := by decide +kernel
theorem dX10_undo_203 : decode cX10_undo 203 = .ok (.iload_n 1, 1) := by decide +kernel
theorem dX10_undo_204 : decode cX10_undo 204 = .ok (.aload_n 0, 1) := by decide +kernel
theorem dX10_undo_205 : decode cX10_undo 205 = .ok (.getfield 184, 3) := by decide +kernel
theorem dX10_undo_208 : decode cX10_undo 208 = .ok (.iload_n 1, 1) := by decide +kernel
theorem dX10_undo_209 : decode cX10_undo 209 = .ok (.iaload, 1) := by decide +kernel
theorem dX10_undo_210 : decode cX10_undo 210 = .ok (.iastore, 1) := by decide +kernel
theorem dX10_undo_211 : decode cX10_undo 211 = .ok (.iinc 1 1, 3) := by decide +kernel
theorem dX10_undo_214 : decode cX10_undo 214 = .ok (.goto (-21), 3) := by decide +kernel
theorem dX10_undo_217 : decode cX10_undo 217 = .ok (.iconst 0, 1) := by decide +kernel
theorem dX10_undo_218 : decode cX10_undo 218 = .ok (.istore_n 1, 1) := by decide +kernel
theorem dX10_undo_219 : decode cX10_undo 219 = .ok (.iload_n 1, 1) := by decide +kernel
theorem dX10_undo_220 : decode cX10_undo 220 = .ok (.bipush 8, 2) := by decide +kernel
theorem dX10_undo_222 : decode cX10_undo 222 = .ok (.if_icmp .ge 33, 3) := by decide +kernel
theorem dX10_undo_225 : decode cX10_undo 225 = .ok (.aload_n 0, 1) := by decide +kernel
theorem dX10_undo_226 : decode cX10_undo 226 = .ok (.getfield 133, 3) := by decide +kernel
theorem dX10_undo_229 : decode cX10_undo 229 = .ok (.iload_n 1, 1) := by decide +kernel
theorem dX10_undo_230 : decode cX10_undo 230 = .ok (.aload_n 0, 1) := by decide +kernel
theorem dX10_undo_231 : decode cX10_undo 231 = .ok (.getfield 187, 3) := by decide +kernel
theorem dX10_undo_234 : decode cX10_undo 234 = .ok (.iload_n 1, 1) := by decide +kernel
theorem dX10_undo_235 : decode cX10_undo 235 = .ok (.iaload, 1) := by decide +kernel
theorem dX10_undo_236 : decode cX10_undo 236 = .ok (.iastore, 1) := by decide +kernel
theorem dX10_undo_237 : decode cX10_undo 237 = .ok (.aload_n 0, 1) := by decide +kernel
theorem dX10_undo_238 : decode cX10_undo 238 = .ok (.getfield 136, 3) := by decide +kernel
theorem dX10_undo_241 : decode cX10_undo 241 = .ok (.iload_n 1, 1) := by decide +kernel
theorem dX10_undo_242 : decode cX10_undo 242 = .ok (.aload_n 0, 1) := by decide +kernel
theorem dX10_undo_243 : decode cX10_undo 243 = .ok (.getfield 190, 3) := by decide +kernel
theorem dX10_undo_246 : decode cX10_undo 246 = .ok (.iload_n 1, 1) := by decide +kernel
theorem dX10_undo_247 : decode cX10_undo 247 = .ok (.iaload, 1) := by decide +kernel
theorem dX10_undo_248 : decode cX10_undo 248 = .ok (.iastore, 1) := by decide +kernel
theorem dX10_undo_249 : decode cX10_undo 249 = .ok (.iinc 1 1, 3) := by decide +kernel
theorem dX10_undo_252 : decode cX10_undo 252 = .ok (.goto (-33), 3) := by decide +kernel
theorem dX10_undo_255 : decode cX10_undo 255 = .ok (.aload_n 0, 1) := by decide +kernel
theorem dX10_undo_256 : decode cX10_undo 256 = .ok (.getfield 7, 3) := by decide +kernel
theorem dX10_undo_259 : decode cX10_undo 259 = .ok (.ireturn, 1) := by decide +kernel
theorem dX10_body_0 : decode cX10_body 0 = .ok (.aload_n 0, 1) := by decide +kernel
theorem dX10_body_1 : decode cX10_body 1 = .ok (.getfield 193, 3) := by decide +kernel
theorem dX10_body_4 : decode cX10_body 4 = .ok (.bipush 20, 2) := by decide +kernel
theorem dX10_body_6 : decode cX10_body 6 = .ok (.if_icmp .ge 13, 3) := by decide +kernel
theorem dX10_body_9 : decode cX10_body 9 = .ok (.aload_n 0, 1) := by decide +kernel
theorem dX10_body_10 : decode cX10_body 10 = .ok (.getfield 196, 3) := by decide +kernel
theorem dX10_body_13 : decode cX10_body 13 = .ok (.aload_n 0, 1) := by decide +kernel
theorem dX10_body_14 : decode cX10_body 14 = .ok (.getfield 193, 3) := by decide +kernel
theorem dX10_body_17 : decode cX10_body 17 = .ok (.iload_n 1, 1) := by decide +kernel
theorem dX10_body_18 : decode cX10_body 18 = .ok (.iastore, 1) := by decide +kernel
theorem dX10_body_19 : decode cX10_body 19 = .ok (.aload_n 0, 1) := by decide +kernel
theorem dX10_body_20 : decode cX10_body 20 = .ok (.dup, 1) := by decide +kernel
theorem dX10_body_21 : decode cX10_body 21 = .ok (.getfield 193, 3) := by decide +kernel
theorem dX10_body_24 : decode cX10_body 24 = .ok (.iconst 1, 1) := by decide +kernel
theorem dX10_body_25 : decode cX10_body 25 = .ok (.iadd, 1) := by decide +kernel
theorem dX10_body_26 : decode cX10_body 26 = .ok (.putfield 193, 3) := by decide +kernel
theorem dX10_body_29 : decode cX10_body 29 = .ok (.return_, 1) := by decide +kernel
theorem dX10_clockTicks_0 : decode cX10_clockTicks 0 = .ok (.aload_n 0, 1) := by decide +kernel
theorem dX10_clockTicks_1 : decode cX10_clockTicks 1 = .ok (.bipush 10, 2) := by decide +kernel
theorem dX10_clockTicks_3 : decode cX10_clockTicks 3 = .ok (.invokevirtual 369, 3) := by decide +kernel
theorem dX10_clockTicks_6 : decode cX10_clockTicks 6 = .ok (.iload_n 2, 1) := by decide +kernel
theorem dX10_clockTicks_7 : decode cX10_clockTicks 7 = .ok (.iload_n 1, 1) := by decide +kernel
theorem dX10_clockTicks_8 : decode cX10_clockTicks 8 = .ok (.iadd, 1) := by decide +kernel
theorem dX10_clockTicks_9 : decode cX10_clockTicks 9 = .ok (.ireturn, 1) := by decide +kernel
theorem dX10_ticksAct_0 : decode cX10_ticksAct 0 = .ok (.aload_n 0, 1) := by decide +kernel
theorem dX10_ticksAct_1 : decode cX10_ticksAct 1 = .ok (.getfield 19, 3) := by decide +kernel
theorem dX10_ticksAct_4 : decode cX10_ticksAct 4 = .ok (.iload_n 1, 1) := by decide +kernel
theorem dX10_ticksAct_5 : decode cX10_ticksAct 5 = .ok (.iaload, 1) := by decide +kernel
theorem dX10_ticksAct_6 : decode cX10_ticksAct 6 = .ok (.tableswitch 83 2 6 #[34, 83, 49, 34, 63], 34) := by decide +kernel
theorem dX10_ticksAct_40 : decode cX10_ticksAct 40 = .ok (.aload_n 0, 1) := by decide +kernel
theorem dX10_ticksAct_41 : decode cX10_ticksAct 41 = .ok (.bipush 30, 2) := by decide +kernel
theorem dX10_ticksAct_43 : decode cX10_ticksAct 43 = .ok (.invokevirtual 369, 3) := by decide +kernel
theorem dX10_ticksAct_46 : decode cX10_ticksAct 46 = .ok (.aload_n 0, 1) := by decide +kernel
theorem dX10_ticksAct_47 : decode cX10_ticksAct 47 = .ok (.iload_n 1, 1) := by decide +kernel
theorem dX10_ticksAct_48 : decode cX10_ticksAct 48 = .ok (.iload_n 2, 1) := by decide +kernel
theorem dX10_ticksAct_49 : decode cX10_ticksAct 49 = .ok (.iconst 3, 1) := by decide +kernel
theorem dX10_ticksAct_50 : decode cX10_ticksAct 50 = .ok (.imul, 1) := by decide +kernel
theorem dX10_ticksAct_51 : decode cX10_ticksAct 51 = .ok (.invokevirtual 372, 3) := by decide +kernel
theorem dX10_ticksAct_54 : decode cX10_ticksAct 54 = .ok (.ireturn, 1) := by decide +kernel
theorem dX10_ticksAct_55 : decode cX10_ticksAct 55 = .ok (.aload_n 0, 1) := by decide +kernel
theorem dX10_ticksAct_56 : decode cX10_ticksAct 56 = .ok (.bipush 50, 2) := by decide +kernel
theorem dX10_ticksAct_58 : decode cX10_ticksAct 58 = .ok (.invokevirtual 369, 3) := by decide +kernel
theorem dX10_ticksAct_61 : decode cX10_ticksAct 61 = .ok (.aload_n 0, 1) := by decide +kernel
theorem dX10_ticksAct_62 : decode cX10_ticksAct 62 = .ok (.iload_n 1, 1) := by decide +kernel
theorem dX10_ticksAct_63 : decode cX10_ticksAct 63 = .ok (.iload_n 2, 1) := by decide +kernel
theorem dX10_ticksAct_64 : decode cX10_ticksAct 64 = .ok (.invokevirtual 372, 3) := by decide +kernel
theorem dX10_ticksAct_67 : decode cX10_ticksAct 67 = .ok (.ineg, 1) := by decide +kernel
theorem dX10_ticksAct_68 : decode cX10_ticksAct 68 = .ok (.ireturn, 1) := by decide +kernel
theorem dX10_ticksAct_69 : decode cX10_ticksAct 69 = .ok (.aload_n 0, 1) := by decide +kernel
theorem dX10_ticksAct_70 : decode cX10_ticksAct 70 = .ok (.bipush 71, 2) := by decide +kernel
theorem dX10_ticksAct_72 : decode cX10_ticksAct 72 = .ok (.invokevirtual 369, 3) := by decide +kernel
theorem dX10_ticksAct_75 : decode cX10_ticksAct 75 = .ok (.aload_n 0, 1) := by decide +kernel
theorem dX10_ticksAct_76 : decode cX10_ticksAct 76 = .ok (.iload_n 1, 1) := by decide +kernel
theorem dX10_ticksAct_77 : decode cX10_ticksAct 77 = .ok (.iload_n 2, 1) := by decide +kernel
theorem dX10_ticksAct_78 : decode cX10_ticksAct 78 = .ok (.invokevirtual 372, 3) := by decide +kernel
theorem dX10_ticksAct_81 : decode cX10_ticksAct 81 = .ok (.aload_n 0, 1) := by decide +kernel
theorem dX10_ticksAct_82 : decode cX10_ticksAct 82 = .ok (.getfield 23, 3) := by decide +kernel
theorem dX10_ticksAct_85 : decode cX10_ticksAct 85 = .ok (.iload_n 1, 1) := by decide +kernel
theorem dX10_ticksAct_86 : decode cX10_ticksAct 86 = .ok (.iaload, 1) := by decide +kernel
theorem dX10_ticksAct_87 : decode cX10_ticksAct 87 = .ok (.ixor, 1) := by decide +kernel
theorem dX10_ticksAct_88 : decode cX10_ticksAct 88 = .ok (.ireturn, 1) := by decide +kernel
theorem dX10_ticksAct_89 : decode cX10_ticksAct 89 = .ok (.aload_n 0, 1) := by decide +kernel
theorem dX10_ticksAct_90 : decode cX10_ticksAct 90 = .ok (.iload_n 1, 1) := by decide +kernel
theorem dX10_ticksAct_91 : decode cX10_ticksAct 91 = .ok (.iload_n 2, 1) := by decide +kernel
theorem dX10_ticksAct_92 : decode cX10_ticksAct 92 = .ok (.invokevirtual 372, 3) := by decide +kernel
theorem dX10_ticksAct_95 : decode cX10_ticksAct 95 = .ok (.ireturn, 1) := by decide +kernel
theorem dX10_clockStrikes_0 : decode cX10_clockStrikes 0 = .ok (.aload_n 0, 1) := by decide +kernel
theorem dX10_clockStrikes_1 : decode cX10_clockStrikes 1 = .ok (.bipush 11, 2) := by decide +kernel
theorem dX10_clockStrikes_3 : decode cX10_clockStrikes 3 = .ok (.invokevirtual 369, 3) := by decide +kernel
theorem dX10_clockStrikes_6 : decode cX10_clockStrikes 6 = .ok (.aload_n 0, 1) := by decide +kernel
theorem dX10_clockStrikes_7 : decode cX10_clockStrikes 7 = .ok (.iload_n 1, 1) := by decide +kernel
theorem dX10_clockStrikes_8 : decode cX10_clockStrikes 8 = .ok (.iload_n 2, 1) := by decide +kernel
theorem dX10_clockStrikes_9 : decode cX10_clockStrikes 9 = .ok (.invokevirtual 375, 3) := by decide +kernel
theorem dX10_clockStrikes_12 : decode cX10_clockStrikes 12 = .ok (.aload_n 0, 1) := by decide +kernel
theorem dX10_clockStrikes_13 : decode cX10_clockStrikes 13 = .ok (.getfield 23, 3) := by decide +kernel
theorem dX10_clockStrikes_16 : decode cX10_clockStrikes 16 = .ok (.iload_n 1, 1) := by decide +kernel
theorem dX10_clockStrikes_17 : decode cX10_clockStrikes 17 = .ok (.iaload, 1) := by decide +kernel
theorem dX10_clockStrikes_18 : decode cX10_clockStrikes 18 = .ok (.isub, 1) := by decide +kernel
theorem dX10_clockStrikes_19 : decode cX10_clockStrikes 19 = .ok (.ireturn, 1) := by decide +kernel
theorem dX10_fastStrikes_0 : decode cX10_fastStrikes 0 = .ok (.aload_n 0, 1) := by decide +kernel
theorem dX10_fastStrikes_1 : decode cX10_fastStrikes 1 = .ok (.bipush 20, 2) := by decide +kernel
theorem dX10_fastStrikes_3 : decode cX10_fastStrikes 3 = .ok (.invokevirtual 369, 3) := by decide +kernel
theorem dX10_fastStrikes_6 : decode cX10_fastStrikes 6 = .ok (.aload_n 0, 1) := by decide +kernel
theorem dX10_fastStrikes_7 : decode cX10_fastStrikes 7 = .ok (.iload_n 1, 1) := by decide +kernel
theorem dX10_fastStrikes_8 : decode cX10_fastStrikes 8 = .ok (.iload_n 2, 1) := by decide +kernel
theorem dX10_fastStrikes_9 : decode cX10_fastStrikes 9 = .ok (.invokevirtual 378, 3) := by decide +kernel
theorem dX10_fastStrikes_12 : decode cX10_fastStrikes 12 = .ok (.bipush 6, 2) := by decide +kernel
theorem dX10_fastStrikes_14 : decode cX10_fastStrikes 14 = .ok (.ixor, 1) := by decide +kernel
theorem dX10_fastStrikes_15 : decode cX10_fastStrikes 15 = .ok (.ireturn, 1) := by decide +kernel
theorem dX10_strikesAct_0 : decode cX10_strikesAct 0 = .ok (.aload_n 0, 1) := by decide +kernel
theorem dX10_strikesAct_1 : decode cX10_strikesAct 1 = .ok (.getfield 19, 3) := by decide +kernel
theorem dX10_strikesAct_4 : decode cX10_strikesAct 4 = .ok (.iload_n 1, 1) := by decide +kernel
theorem dX10_strikesAct_5 : decode cX10_strikesAct 5 = .ok (.iaload, 1) := by decide +kernel
theorem dX10_strikesAct_6 : decode cX10_strikesAct 6 = .ok (.lookupswitch 78 #[(1, 34), (4, 41), (6, 56)], 34) := by decide +kernel
theorem dX10_strikesAct_40 : decode cX10_strikesAct 40 = .ok (.aload_n 0, 1) := by decide +kernel
theorem dX10_strikesAct_41 : decode cX10_strikesAct 41 = .ok (.iload_n 1, 1) := by decide +kernel
theorem dX10_strikesAct_42 : decode cX10_strikesAct 42 = .ok (.iload_n 2, 1) := by decide +kernel
theorem dX10_strikesAct_43 : decode cX10_strikesAct 43 = .ok (.invokevirtual 381, 3) := by decide +kernel
theorem dX10_strikesAct_46 : decode cX10_strikesAct 46 = .ok (.ireturn, 1) := by decide +kernel
theorem dX10_strikesAct_47 : decode cX10_strikesAct 47 = .ok (.aload_n 0, 1) := by decide +kernel
theorem dX10_strikesAct_48 : decode cX10_strikesAct 48 = .ok (.bipush 51, 2) := by decide +kernel
theorem dX10_strikesAct_50 : decode cX10_strikesAct 50 = .ok (.invokevirtual 369, 3) := by decide +kernel
theorem dX10_strikesAct_53 : decode cX10_strikesAct 53 = .ok (.aload_n 0, 1) := by decide +kernel
theorem dX10_strikesAct_54 : decode cX10_strikesAct 54 = .ok (.iload_n 1, 1) := by decide +kernel
theorem dX10_strikesAct_55 : decode cX10_strikesAct 55 = .ok (.iload_n 2, 1) := by decide +kernel
theorem dX10_strikesAct_56 : decode cX10_strikesAct 56 = .ok (.iconst 1, 1) := by decide +kernel
theorem dX10_strikesAct_57 : decode cX10_strikesAct 57 = .ok (.iadd, 1) := by decide +kernel
theorem dX10_strikesAct_58 : decode cX10_strikesAct 58 = .ok (.invokevirtual 381, 3) := by decide +kernel
theorem dX10_strikesAct_61 : decode cX10_strikesAct 61 = .ok (.ireturn, 1) := by decide +kernel
theorem dX10_strikesAct_62 : decode cX10_strikesAct 62 = .ok (.aload_n 0, 1) := by decide +kernel
theorem dX10_strikesAct_63 : decode cX10_strikesAct 63 = .ok (.bipush 70, 2) := by decide +kernel
theorem dX10_strikesAct_65 : decode cX10_strikesAct 65 = .ok (.invokevirtual 369, 3) := by decide +kernel
theorem dX10_strikesAct_68 : decode cX10_strikesAct 68 = .ok (.aload_n 0, 1) := by decide +kernel
theorem dX10_strikesAct_69 : decode cX10_strikesAct 69 = .ok (.iload_n 1, 1) := by decide +kernel
theorem dX10_strikesAct_70 : decode cX10_strikesAct 70 = .ok (.iload_n 2, 1) := by decide +kernel
theorem dX10_strikesAct_71 : decode cX10_strikesAct 71 = .ok (.invokevirtual 378, 3) := by decide +kernel
theorem dX10_strikesAct_74 : decode cX10_strikesAct 74 = .ok (.istore_n 3, 1) := by decide +kernel
theorem dX10_strikesAct_75 : decode cX10_strikesAct 75 = .ok (.iload_n 3, 1) := by decide +kernel
theorem dX10_strikesAct_76 : decode cX10_strikesAct 76 = .ok (.aload_n 0, 1) := by decide +kernel
theorem dX10_strikesAct_77 : decode cX10_strikesAct 77 = .ok (.iload_n 1, 1) := by decide +kernel
theorem dX10_strikesAct_78 : decode cX10_strikesAct 78 = .ok (.iconst 2, 1) := by decide +kernel
theorem dX10_strikesAct_79 : decode cX10_strikesAct 79 = .ok (.invokevirtual 372, 3) := by decide +kernel
theorem dX10_strikesAct_82 : decode cX10_strikesAct 82 = .ok (.iadd, 1) := by decide +kernel
theorem dX10_strikesAct_83 : decode cX10_strikesAct 83 = .ok (.ireturn, 1) := by decide +kernel
theorem dX10_strikesAct_84 : decode cX10_strikesAct 84 = .ok (.aload_n 0, 1) := by decide +kernel
theorem dX10_strikesAct_85 : decode cX10_strikesAct 85 = .ok (.iload_n 1, 1) := by decide +kernel
theorem dX10_strikesAct_86 : decode cX10_strikesAct 86 = .ok (.iload_n 2, 1) := by decide +kernel
theorem dX10_strikesAct_87 : decode cX10_strikesAct 87 = .ok (.invokevirtual 378, 3) := by decide +kernel
theorem dX10_strikesAct_90 : decode cX10_strikesAct 90 = .ok (.ireturn, 1) := by decide +kernel
theorem dX10_clockTells_0 : decode cX10_clockTells 0 = .ok (.aload_n 0, 1) := by decide +kernel
theorem dX10_clockTells_1 : decode cX10_clockTells 1 = .ok (.bipush 12, 2) := by decide +kernel
theorem dX10_clockTells_3 : decode cX10_clockTells 3 = .ok (.invokevirtual 369, 3) := by decide +kernel
theorem dX10_clockTells_6 : decode cX10_clockTells 6 = .ok (.aload_n 0, 1) := by decide +kernel
theorem dX10_clockTells_7 : decode cX10_clockTells 7 = .ok (.iload_n 1, 1) := by decide +kernel
theorem dX10_clockTells_8 : decode cX10_clockTells 8 = .ok (.iload_n 2, 1) := by decide +kernel
theorem dX10_clockTells_9 : decode cX10_clockTells 9 = .ok (.invokevirtual 384, 3) := by decide +kernel
theorem dX10_clockTells_12 : decode cX10_clockTells 12 = .ok (.iconst 2, 1) := by decide +kernel
theorem dX10_clockTells_13 : decode cX10_clockTells 13 = .ok (.imul, 1) := by decide +kernel
theorem dX10_clockTells_14 : decode cX10_clockTells 14 = .ok (.ireturn, 1) := by decide +kernel
theorem dX10_tellsAct_0 : decode cX10_tellsAct 0 = .ok (.aload_n 0, 1) := by decide +kernel
theorem dX10_tellsAct_1 : decode cX10_tellsAct 1 = .ok (.getfield 19, 3) := by decide +kernel
theorem dX10_tellsAct_4 : decode cX10_tellsAct 4 = .ok (.iload_n 1, 1) := by decide +kernel
theorem dX10_tellsAct_5 : decode cX10_tellsAct 5 = .ok (.iaload, 1) := by decide +kernel
theorem dX10_tellsAct_6 : decode cX10_tellsAct 6 = .ok (.tableswitch 67 3 6 #[30, 67, 52, 30], 30) := by decide +kernel
theorem dX10_tellsAct_36 : decode cX10_tellsAct 36 = .ok (.aload_n 0, 1) := by decide +kernel
theorem dX10_tellsAct_37 : decode cX10_tellsAct 37 = .ok (.bipush 40, 2) := by decide +kernel
theorem dX10_tellsAct_39 : decode cX10_tellsAct 39 = .ok (.invokevirtual 369, 3) := by decide +kernel
theorem dX10_tellsAct_42 : decode cX10_tellsAct 42 = .ok (.aload_n 0, 1) := by decide +kernel
theorem dX10_tellsAct_43 : decode cX10_tellsAct 43 = .ok (.iload_n 1, 1) := by decide +kernel
theorem dX10_tellsAct_44 : decode cX10_tellsAct 44 = .ok (.iload_n 2, 1) := by decide +kernel
theorem dX10_tellsAct_45 : decode cX10_tellsAct 45 = .ok (.invokevirtual 387, 3) := by decide +kernel
theorem dX10_tellsAct_48 : decode cX10_tellsAct 48 = .ok (.istore_n 3, 1) := by decide +kernel
theorem dX10_tellsAct_49 : decode cX10_tellsAct 49 = .ok (.iload_n 3, 1) := by decide +kernel
theorem dX10_tellsAct_50 : decode cX10_tellsAct 50 = .ok (.aload_n 0, 1) := by decide +kernel
theorem dX10_tellsAct_51 : decode cX10_tellsAct 51 = .ok (.iload_n 1, 1) := by decide +kernel
theorem dX10_tellsAct_52 : decode cX10_tellsAct 52 = .ok (.iconst 1, 1) := by decide +kernel
theorem dX10_tellsAct_53 : decode cX10_tellsAct 53 = .ok (.invokevirtual 384, 3) := by decide +kernel
theorem dX10_tellsAct_56 : decode cX10_tellsAct 56 = .ok (.iadd, 1) := by decide +kernel
theorem dX10_tellsAct_57 : decode cX10_tellsAct 57 = .ok (.ireturn, 1) := by decide +kernel
theorem dX10_tellsAct_58 : decode cX10_tellsAct 58 = .ok (.aload_n 0, 1) := by decide +kernel
theorem dX10_tellsAct_59 : decode cX10_tellsAct 59 = .ok (.bipush 60, 2) := by decide +kernel
theorem dX10_tellsAct_61 : decode cX10_tellsAct 61 = .ok (.invokevirtual 369, 3) := by decide +kernel
theorem dX10_tellsAct_64 : decode cX10_tellsAct 64 = .ok (.aload_n 0, 1) := by decide +kernel
theorem dX10_tellsAct_65 : decode cX10_tellsAct 65 = .ok (.iload_n 1, 1) := by decide +kernel
theorem dX10_tellsAct_66 : decode cX10_tellsAct 66 = .ok (.iload_n 2, 1) := by decide +kernel
theorem dX10_tellsAct_67 : decode cX10_tellsAct 67 = .ok (.iload_n 1, 1) := by decide +kernel
theorem dX10_tellsAct_68 : decode cX10_tellsAct 68 = .ok (.isub, 1) := by decide +kernel
theorem dX10_tellsAct_69 : decode cX10_tellsAct 69 = .ok (.invokevirtual 387, 3) := by decide +kernel
theorem dX10_tellsAct_72 : decode cX10_tellsAct 72 = .ok (.ireturn, 1) := by decide +kernel
theorem dX10_tellsAct_73 : decode cX10_tellsAct 73 = .ok (.aload_n 0, 1) := by decide +kernel
theorem dX10_tellsAct_74 : decode cX10_tellsAct 74 = .ok (.iload_n 1, 1) := by decide +kernel
theorem dX10_tellsAct_75 : decode cX10_tellsAct 75 = .ok (.iload_n 2, 1) := by decide +kernel
theorem dX10_tellsAct_76 : decode cX10_tellsAct 76 = .ok (.invokevirtual 387, 3) := by decide +kernel
theorem dX10_tellsAct_79 : decode cX10_tellsAct 79 = .ok (.ireturn, 1) := by decide +kernel
theorem dX10_act_0 : decode cX10_act 0 = .ok (.aload_n 0, 1) := by decide +kernel
theorem dX10_act_1 : decode cX10_act 1 = .ok (.iconst 0, 1) := by decide +kernel
theorem dX10_act_2 : decode cX10_act 2 = .ok (.putfield 193, 3) := by decide +kernel
theorem dX10_act_5 : decode cX10_act 5 = .ok (.aload_n 0, 1) := by decide +kernel
theorem dX10_act_6 : decode cX10_act 6 = .ok (.iload_n 1, 1) := by decide +kernel
theorem dX10_act_7 : decode cX10_act 7 = .ok (.invokevirtual 220, 3) := by decide +kernel
theorem dX10_act_10 : decode cX10_act 10 = .ok (.ifCond .eq 13, 3) := by decide +kernel
theorem dX10_act_13 : decode cX10_act 13 = .ok (.aload_n 0, 1) := by decide +kernel
theorem dX10_act_14 : decode cX10_act 14 = .ok (.iload_n 2, 1) := by decide +kernel
theorem dX10_act_15 : decode cX10_act 15 = .ok (.iconst 0, 1) := by decide +kernel
theorem dX10_act_16 : decode cX10_act 16 = .ok (.iconst 2, 1) := by decide +kernel
theorem dX10_act_17 : decode cX10_act 17 = .ok (.invokevirtual 212, 3) := by decide +kernel
theorem dX10_act_20 : decode cX10_act 20 = .ok (.ifCond .ne 5, 3) := by decide +kernel
theorem dX10_act_23 : decode cX10_act 23 = .ok (.iconst 0, 1) := by decide +kernel
theorem dX10_act_24 : decode cX10_act 24 = .ok (.ireturn, 1) := by decide +kernel
theorem dX10_act_25 : decode cX10_act 25 = .ok (.iload_n 2, 1) := by decide +kernel
theorem dX10_act_26 : decode cX10_act 26 = .ok (.ifCond .ne 12, 3) := by decide +kernel
theorem dX10_act_29 : decode cX10_act 29 = .ok (.aload_n 0, 1) := by decide +kernel
theorem dX10_act_30 : decode cX10_act 30 = .ok (.iload_n 1, 1) := by decide +kernel
theorem dX10_act_31 : decode cX10_act 31 = .ok (.iload_n 3, 1) := by decide +kernel
theorem dX10_act_32 : decode cX10_act 32 = .ok (.invokevirtual 375, 3) := by decide +kernel
theorem dX10_act_35 : decode cX10_act 35 = .ok (.goto 23, 3) := by decide +kernel
theorem dX10_act_38 : decode cX10_act 38 = .ok (.iload_n 2, 1) := by decide +kernel
theorem dX10_act_39 : decode cX10_act 39 = .ok (.iconst 1, 1) := by decide +kernel
theorem dX10_act_40 : decode cX10_act 40 = .ok (.if_icmp .ne 12, 3) := by decide +kernel
theorem dX10_act_43 : decode cX10_act 43 = .ok (.aload_n 0, 1) := by decide +kernel
theorem dX10_act_44 : decode cX10_act 44 = .ok (.iload_n 1, 1) := by decide +kernel
theorem dX10_act_45 : decode cX10_act 45 = .ok (.iload_n 3, 1) := by decide +kernel
theorem dX10_act_46 : decode cX10_act 46 = .ok (.invokevirtual 384, 3) := by decide +kernel
theorem dX10_act_49 : decode cX10_act 49 = .ok (.goto 9, 3) := by decide +kernel
theorem dX10_act_52 : decode cX10_act 52 = .ok (.aload_n 0, 1) := by decide +kernel
theorem dX10_act_53 : decode cX10_act 53 = .ok (.iload_n 1, 1) := by decide +kernel
theorem dX10_act_54 : decode cX10_act 54 = .ok (.iload_n 3, 1) := by decide +kernel
theorem dX10_act_55 : decode cX10_act 55 = .ok (.invokevirtual 390, 3) := by decide +kernel
theorem dX10_act_58 : decode cX10_act 58 = .ok (.ireturn, 1) := by decide +kernel
theorem dX10_trace_0 : decode cX10_trace 0 = .ok (.aload_n 0, 1) := by decide +kernel
theorem dX10_trace_1 : decode cX10_trace 1 = .ok (.iload_n 1, 1) := by decide +kernel
theorem dX10_trace_2 : decode cX10_trace 2 = .ok (.iconst 0, 1) := by decide +kernel
theorem dX10_trace_3 : decode cX10_trace 3 = .ok (.bipush 19, 2) := by decide +kernel
theorem dX10_trace_5 : decode cX10_trace 5 = .ok (.invokevirtual 212, 3) := by decide +kernel
theorem dX10_trace_8 : decode cX10_trace 8 = .ok (.ifCond .eq 20, 3) := by decide +kernel
theorem dX10_trace_11 : decode cX10_trace 11 = .ok (.iload_n 1, 1) := by decide +kernel
theorem dX10_trace_12 : decode cX10_trace 12 = .ok (.aload_n 0, 1) := by decide +kernel
theorem dX10_trace_13 : decode cX10_trace 13 = .ok (.getfield 193, 3) := by decide +kernel
theorem dX10_trace_16 : decode cX10_trace 16 = .ok (.if_icmp .ge 12, 3) := by decide +kernel
theorem dX10_trace_19 : decode cX10_trace 19 = .ok (.aload_n 0, 1) := by decide +kernel
theorem dX10_trace_20 : decode cX10_trace 20 = .ok (.getfield 196, 3) := by decide +kernel
theorem dX10_trace_23 : decode cX10_trace 23 = .ok (.iload_n 1, 1) := by decide +kernel
theorem dX10_trace_24 : decode cX10_trace 24 = .ok (.iaload, 1) := by decide +kernel
theorem dX10_trace_25 : decode cX10_trace 25 = .ok (.goto 4, 3) := by decide +kernel
theorem dX10_trace_28 : decode cX10_trace 28 = .ok (.iconst (-1), 1) := by decide +kernel
theorem dX10_trace_29 : decode cX10_trace 29 = .ok (.ireturn, 1) := by decide +kernel
theorem dX10_taken_0 : decode cX10_taken 0 = .ok (.aload_n 0, 1) := by decide +kernel
theorem dX10_taken_1 : decode cX10_taken 1 = .ok (.iload_n 2, 1) := by decide +kernel
theorem dX10_taken_2 : decode cX10_taken 2 = .ok (.iconst 0, 1) := by decide +kernel
theorem dX10_taken_3 : decode cX10_taken 3 = .ok (.bipush 6, 2) := by decide +kernel
theorem dX10_taken_5 : decode cX10_taken 5 = .ok (.invokevirtual 212, 3) := by decide +kernel
theorem dX10_taken_8 : decode cX10_taken 8 = .ok (.ifCond .ne 6, 3) := by decide +kernel
theorem dX10_taken_11 : decode cX10_taken 11 = .ok (.bipush (-2), 2) := by decide +kernel
theorem dX10_taken_13 : decode cX10_taken 13 = .ok (.ireturn, 1) := by decide +kernel
theorem dX10_taken_14 : decode cX10_taken 14 = .ok (.aload_n 0, 1) := by decide +kernel
theorem dX10_taken_15 : decode cX10_taken 15 = .ok (.iload_n 1, 1) := by decide +kernel
theorem dX10_taken_16 : decode cX10_taken 16 = .ok (.invokevirtual 220, 3) := by decide +kernel
theorem dX10_taken_19 : decode cX10_taken 19 = .ok (.ifCond .ne 6, 3) := by decide +kernel
theorem dX10_taken_22 : decode cX10_taken 22 = .ok (.bipush (-11), 2) := by decide +kernel
theorem dX10_taken_24 : decode cX10_taken 24 = .ok (.ireturn, 1) := by decide +kernel
theorem dX10_taken_25 : decode cX10_taken 25 = .ok (.aload_n 0, 1) := by decide +kernel
theorem dX10_taken_26 : decode cX10_taken 26 = .ok (.getfield 19, 3) := by decide +kernel
theorem dX10_taken_29 : decode cX10_taken 29 = .ok (.iload_n 1, 1) := by decide +kernel
theorem dX10_taken_30 : decode cX10_taken 30 = .ok (.iaload, 1) := by decide +kernel
theorem dX10_taken_31 : decode cX10_taken 31 = .ok (.istore_n 3, 1) := by decide +kernel
theorem dX10_taken_32 : decode cX10_taken 32 = .ok (.iload_n 2, 1) := by decide +kernel
theorem dX10_taken_33 : decode cX10_taken 33 = .ok (.ifCond .eq 39, 3) := by decide +kernel
theorem dX10_taken_36 : decode cX10_taken 36 = .ok (.iload_n 3, 1) := by decide +kernel
theorem dX10_taken_37 : decode cX10_taken 37 = .ok (.iload_n 2, 1) := by decide +kernel
theorem dX10_taken_38 : decode cX10_taken 38 = .ok (.if_icmp .eq 34, 3) := by decide +kernel
theorem dX10_taken_41 : decode cX10_taken 41 = .ok (.iload_n 2, 1) := by decide +kernel
theorem dX10_taken_42 : decode cX10_taken 42 = .ok (.iconst 1, 1) := by decide +kernel
theorem dX10_taken_43 : decode cX10_taken 43 = .ok (.if_icmp .ne 8, 3) := by decide +kernel
theorem dX10_taken_46 : decode cX10_taken 46 = .ok (.iload_n 3, 1) := by decide +kernel
theorem dX10_taken_47 : decode cX10_taken 47 = .ok (.iconst 4, 1) := by decide +kernel
theorem dX10_taken_48 : decode cX10_taken 48 = .ok (.if_icmp .eq 24, 3) := by decide +kernel
theorem dX10_taken_51 : decode cX10_taken 51 = .ok (.iload_n 2, 1) := by decide +kernel
theorem dX10_taken_52 : decode cX10_taken 52 = .ok (.iconst 2, 1) := by decide +kernel
theorem dX10_taken_53 : decode cX10_taken 53 = .ok (.if_icmp .ne 8, 3) := by decide +kernel
theorem dX10_taken_56 : decode cX10_taken 56 = .ok (.iload_n 3, 1) := by decide +kernel
theorem dX10_taken_57 : decode cX10_taken 57 = .ok (.iconst 5, 1) := by decide +kernel
theorem dX10_taken_58 : decode cX10_taken 58 = .ok (.if_icmp .eq 14, 3) := by decide +kernel
theorem dX10_taken_61 : decode cX10_taken 61 = .ok (.iload_n 2, 1) := by decide +kernel
theorem dX10_taken_62 : decode cX10_taken 62 = .ok (.iconst 3, 1) := by decide +kernel
theorem dX10_taken_63 : decode cX10_taken 63 = .ok (.if_icmp .ne 13, 3) := by decide +kernel
theorem dX10_taken_66 : decode cX10_taken 66 = .ok (.iload_n 3, 1) := by decide +kernel
theorem dX10_taken_67 : decode cX10_taken 67 = .ok (.bipush 6, 2) := by decide +kernel
theorem dX10_taken_69 : decode cX10_taken 69 = .ok (.if_icmp .ne 7, 3) := by decide +kernel
theorem dX10_taken_72 : decode cX10_taken 72 = .ok (.iload_n 3, 1) := by decide +kernel
theorem dX10_taken_73 : decode cX10_taken 73 = .ok (.goto 5, 3) := by decide +kernel
theorem dX10_taken_76 : decode cX10_taken 76 = .ok (.bipush (-12), 2) := by decide +kernel
theorem dX10_taken_78 : decode cX10_taken 78 = .ok (.ireturn, 1) := by decide +kernel
theorem dX10_count_0 : decode cX10_count 0 = .ok (.iload_n 1, 1) := by decide +kernel
theorem dX10_count_1 : decode cX10_count 1 = .ok (.tableswitch 78 0 6 #[43, 48, 53, 58, 63, 68, 73], 43) := by decide +kernel
theorem dX10_count_44 : decode cX10_count 44 = .ok (.aload_n 0, 1) := by decide +kernel
theorem dX10_count_45 : decode cX10_count 45 = .ok (.getfield 7, 3) := by decide +kernel
theorem dX10_count_48 : decode cX10_count 48 = .ok (.ireturn, 1) := by decide +kernel
theorem dX10_count_49 : decode cX10_count 49 = .ok (.aload_n 0, 1) := by decide +kernel
theorem dX10_count_50 : decode cX10_count 50 = .ok (.getfield 32, 3) := by decide +kernel
theorem dX10_count_53 : decode cX10_count 53 = .ok (.ireturn, 1) := by decide +kernel
theorem dX10_count_54 : decode cX10_count 54 = .ok (.aload_n 0, 1) := by decide +kernel
theorem dX10_count_55 : decode cX10_count 55 = .ok (.getfield 112, 3) := by decide +kernel
theorem dX10_count_58 : decode cX10_count 58 = .ok (.ireturn, 1) := by decide +kernel
theorem dX10_count_59 : decode cX10_count 59 = .ok (.aload_n 0, 1) := by decide +kernel
theorem dX10_count_60 : decode cX10_count 60 = .ok (.getfield 124, 3) := by decide +kernel
theorem dX10_count_63 : decode cX10_count 63 = .ok (.ireturn, 1) := by decide +kernel
theorem dX10_count_64 : decode cX10_count 64 = .ok (.aload_n 0, 1) := by decide +kernel
theorem dX10_count_65 : decode cX10_count 65 = .ok (.getfield 127, 3) := by decide +kernel
theorem dX10_count_68 : decode cX10_count 68 = .ok (.ireturn, 1) := by decide +kernel
theorem dX10_count_69 : decode cX10_count 69 = .ok (.aload_n 0, 1) := by decide +kernel
theorem dX10_count_70 : decode cX10_count 70 = .ok (.getfield 38, 3) := by decide +kernel
theorem dX10_count_73 : decode cX10_count 73 = .ok (.ireturn, 1) := by decide +kernel
theorem dX10_count_74 : decode cX10_count 74 = .ok (.aload_n 0, 1) := by decide +kernel
theorem dX10_count_75 : decode cX10_count 75 = .ok (.getfield 193, 3) := by decide +kernel
theorem dX10_count_78 : decode cX10_count 78 = .ok (.ireturn, 1) := by decide +kernel
theorem dX10_count_79 : decode cX10_count 79 = .ok (.bipush (-2), 2) := by decide +kernel
theorem dX10_count_81 : decode cX10_count 81 = .ok (.ireturn, 1) := by decide +kernel
theorem dX10_isTape_0 : decode cX10_isTape 0 = .ok (.aload_n 0, 1) := by decide +kernel
theorem dX10_isTape_1 : decode cX10_isTape 1 = .ok (.iload_n 1, 1) := by decide +kernel
theorem dX10_isTape_2 : decode cX10_isTape 2 = .ok (.iconst 0, 1) := by decide +kernel
theorem dX10_isTape_3 : decode cX10_isTape 3 = .ok (.iconst 5, 1) := by decide +kernel
theorem dX10_isTape_4 : decode cX10_isTape 4 = .ok (.invokevirtual 212, 3) := by decide +kernel
theorem dX10_isTape_7 : decode cX10_isTape 7 = .ok (.ireturn, 1) := by decide +kernel
theorem dX10_tape_0 : decode cX10_tape 0 = .ok (.aload_n 0, 1) := by decide +kernel
theorem dX10_tape_1 : decode cX10_tape 1 = .ok (.iload_n 1, 1) := by decide +kernel
theorem dX10_tape_2 : decode cX10_tape 2 = .ok (.invokevirtual 366, 3) := by decide +kernel
theorem dX10_tape_5 : decode cX10_tape 5 = .ok (.ifCond .ne 5, 3) := by decide +kernel
theorem dX10_tape_8 : decode cX10_tape 8 = .ok (.iconst (-1), 1) := by decide +kernel
theorem dX10_tape_9 : decode cX10_tape 9 = .ok (.ireturn, 1) := by decide +kernel
theorem dX10_tape_10 : decode cX10_tape 10 = .ok (.aload_n 0, 1) := by decide +kernel
theorem dX10_tape_11 : decode cX10_tape 11 = .ok (.iload_n 2, 1) := by decide +kernel
theorem dX10_tape_12 : decode cX10_tape 12 = .ok (.iconst (-1), 1) := by decide +kernel
theorem dX10_tape_13 : decode cX10_tape 13 = .ok (.iconst 4, 1) := by decide +kernel
theorem dX10_tape_14 : decode cX10_tape 14 = .ok (.invokevirtual 212, 3) := by decide +kernel
theorem dX10_tape_17 : decode cX10_tape 17 = .ok (.ifCond .eq 13, 3) := by decide +kernel
theorem dX10_tape_20 : decode cX10_tape 20 = .ok (.iload_n 2, 1) := by decide +kernel
theorem dX10_tape_21 : decode cX10_tape 21 = .ok (.ifCond .lt 12, 3) := by decide +kernel
theorem dX10_tape_24 : decode cX10_tape 24 = .ok (.iload_n 3, 1) := by decide +kernel
theorem dX10_tape_25 : decode cX10_tape 25 = .ok (.bipush 60, 2) := by decide +kernel
theorem dX10_tape_27 : decode cX10_tape 27 = .ok (.if_icmp .le 6, 3) := by decide +kernel
theorem dX10_tape_30 : decode cX10_tape 30 = .ok (.bipush (-2), 2) := by decide +kernel
theorem dX10_tape_32 : decode cX10_tape 32 = .ok (.ireturn, 1) := by decide +kernel
theorem dX10_tape_33 : decode cX10_tape 33 = .ok (.iload_n 2, 1) := by decide +kernel
theorem dX10_tape_34 : decode cX10_tape 34 = .ok (.ifCond .lt 10, 3) := by decide +kernel
theorem dX10_tape_37 : decode cX10_tape 37 = .ok (.iload_n 3, 1) := by decide +kernel
theorem dX10_tape_38 : decode cX10_tape 38 = .ok (.ifCond .ge 6, 3) := by decide +kernel
theorem dX10_tape_41 : decode cX10_tape 41 = .ok (.bipush (-14), 2) := by decide +kernel
theorem dX10_tape_43 : decode cX10_tape 43 = .ok (.ireturn, 1) := by decide +kernel
theorem dX10_tape_44 : decode cX10_tape 44 = .ok (.aload_n 0, 1) := by decide +kernel
theorem dX10_tape_45 : decode cX10_tape 45 = .ok (.getfield 199, 3) := by decide +kernel
theorem dX10_tape_48 : decode cX10_tape 48 = .ok (.iload_n 1, 1) := by decide +kernel
theorem dX10_tape_49 : decode cX10_tape 49 = .ok (.iload_n 2, 1) := by decide +kernel
theorem dX10_tape_50 : decode cX10_tape 50 = .ok (.iastore, 1) := by decide +kernel
theorem dX10_tape_51 : decode cX10_tape 51 = .ok (.aload_n 0, 1) := by decide +kernel
theorem dX10_tape_52 : decode cX10_tape 52 = .ok (.getfield 202, 3) := by decide +kernel
theorem dX10_tape_55 : decode cX10_tape 55 = .ok (.iload_n 1, 1) := by decide +kernel
theorem dX10_tape_56 : decode cX10_tape 56 = .ok (.iload_n 2, 1) := by decide +kernel
theorem dX10_tape_57 : decode cX10_tape 57 = .ok (.ifCond .ge 7, 3) := by decide +kernel
theorem dX10_tape_60 : decode cX10_tape 60 = .ok (.iconst 0, 1) := by decide +kernel
theorem dX10_tape_61 : decode cX10_tape 61 = .ok (.goto 4, 3) := by decide +kernel
theorem dX10_tape_64 : decode cX10_tape 64 = .ok (.iload_n 3, 1) := by decide +kernel
theorem dX10_tape_65 : decode cX10_tape 65 = .ok (.iastore, 1) := by decide +kernel
theorem dX10_tape_66 : decode cX10_tape 66 = .ok (.iconst 0, 1) := by decide +kernel
theorem dX10_tape_67 : decode cX10_tape 67 = .ok (.istore 4, 2) := by decide +kernel
theorem dX10_tape_69 : decode cX10_tape 69 = .ok (.iload 4, 2) := by decide +kernel
theorem dX10_tape_71 : decode cX10_tape 71 = .ok (.bipush 60, 2) := by decide +kernel
theorem dX10_tape_73 : decode cX10_tape 73 = .ok (.if_icmp .ge 22, 3) := by decide +kernel
theorem dX10_tape_76 : decode cX10_tape 76 = .ok (.aload_n 0, 1) := by decide +kernel
theorem dX10_tape_77 : decode cX10_tape 77 = .ok (.getfield 205, 3) := by decide +kernel
theorem dX10_tape_80 : decode cX10_tape 80 = .ok (.bipush 60, 2) := by decide +kernel
theorem dX10_tape_82 : decode cX10_tape 82 = .ok (.iload_n 1, 1) := by decide +kernel
theorem dX10_tape_83 : decode cX10_tape 83 = .ok (.imul, 1) := by decide +kernel
theorem dX10_tape_84 : decode cX10_tape 84 = .ok (.iload 4, 2) := by decide +kernel
theorem dX10_tape_86 : decode cX10_tape 86 = .ok (.iadd, 1) := by decide +kernel
theorem dX10_tape_87 : decode cX10_tape 87 = .ok (.lconst 0, 1) := by decide +kernel
theorem dX10_tape_88 : decode cX10_tape 88 = .ok (.lastore, 1) := by decide +kernel
theorem dX10_tape_89 : decode cX10_tape 89 = .ok (.iinc 4 1, 3) := by decide +kernel
theorem dX10_tape_92 : decode cX10_tape 92 = .ok (.goto (-23), 3) := by decide +kernel
theorem dX10_tape_95 : decode cX10_tape 95 = .ok (.iconst 1, 1) := by decide +kernel
theorem dX10_tape_96 : decode cX10_tape 96 = .ok (.ireturn, 1) := by decide +kernel
theorem dX10_narrow_0 : decode cX10_narrow 0 = .ok (.iload_n 1, 1) := by decide +kernel
theorem dX10_narrow_1 : decode cX10_narrow 1 = .ok (.ifCond .ne 10, 3) := by decide +kernel
theorem dX10_narrow_4 : decode cX10_narrow 4 = .ok (.lload_n 2, 1) := by decide +kernel
theorem dX10_narrow_5 : decode cX10_narrow 5 = .ok (.l2i, 1) := by decide +kernel
theorem dX10_narrow_6 : decode cX10_narrow 6 = .ok (.i2b, 1) := by decide +kernel
theorem dX10_narrow_7 : decode cX10_narrow 7 = .ok (.i2l, 1) := by decide +kernel
theorem dX10_narrow_8 : decode cX10_narrow 8 = .ok (.goto 46, 3) := by decide +kernel
theorem dX10_narrow_11 : decode cX10_narrow 11 = .ok (.iload_n 1, 1) := by decide +kernel
theorem dX10_narrow_12 : decode cX10_narrow 12 = .ok (.iconst 1, 1) := by decide +kernel
theorem dX10_narrow_13 : decode cX10_narrow 13 = .ok (.if_icmp .ne 10, 3) := by decide +kernel
theorem dX10_narrow_16 : decode cX10_narrow 16 = .ok (.lload_n 2, 1) := by decide +kernel
theorem dX10_narrow_17 : decode cX10_narrow 17 = .ok (.l2i, 1) := by decide +kernel
theorem dX10_narrow_18 : decode cX10_narrow 18 = .ok (.i2s, 1) := by decide +kernel
theorem dX10_narrow_19 : decode cX10_narrow 19 = .ok (.i2l, 1) := by decide +kernel
theorem dX10_narrow_20 : decode cX10_narrow 20 = .ok (.goto 34, 3) := by decide +kernel
theorem dX10_narrow_23 : decode cX10_narrow 23 = .ok (.iload_n 1, 1) := by decide +kernel
theorem dX10_narrow_24 : decode cX10_narrow 24 = .ok (.iconst 2, 1) := by decide +kernel
theorem dX10_narrow_25 : decode cX10_narrow 25 = .ok (.if_icmp .ne 9, 3) := by decide +kernel
theorem dX10_narrow_28 : decode cX10_narrow 28 = .ok (.lload_n 2, 1) := by decide +kernel
theorem dX10_narrow_29 : decode cX10_narrow 29 = .ok (.l2i, 1) := by decide +kernel
theorem dX10_narrow_30 : decode cX10_narrow 30 = .ok (.i2l, 1) := by decide +kernel
theorem dX10_narrow_31 : decode cX10_narrow 31 = .ok (.goto 23, 3) := by decide +kernel
theorem dX10_narrow_34 : decode cX10_narrow 34 = .ok (.iload_n 1, 1) := by decide +kernel
theorem dX10_narrow_35 : decode cX10_narrow 35 = .ok (.iconst 4, 1) := by decide +kernel
theorem dX10_narrow_36 : decode cX10_narrow 36 = .ok (.if_icmp .ne 17, 3) := by decide +kernel
theorem dX10_narrow_39 : decode cX10_narrow 39 = .ok (.lload_n 2, 1) := by decide +kernel
theorem dX10_narrow_40 : decode cX10_narrow 40 = .ok (.lconst 0, 1) := by decide +kernel
theorem dX10_narrow_41 : decode cX10_narrow 41 = .ok (.lcmp, 1) := by decide +kernel
theorem dX10_narrow_42 : decode cX10_narrow 42 = .ok (.ifCond .eq 7, 3) := by decide +kernel
theorem dX10_narrow_45 : decode cX10_narrow 45 = .ok (.lconst 1, 1) := by decide +kernel
theorem dX10_narrow_46 : decode cX10_narrow 46 = .ok (.goto 8, 3) := by decide +kernel
theorem dX10_narrow_49 : decode cX10_narrow 49 = .ok (.lconst 0, 1) := by decide +kernel
theorem dX10_narrow_50 : decode cX10_narrow 50 = .ok (.goto 4, 3) := by decide +kernel
theorem dX10_narrow_53 : decode cX10_narrow 53 = .ok (.lload_n 2, 1) := by decide +kernel
theorem dX10_narrow_54 : decode cX10_narrow 54 = .ok (.lreturn, 1) := by decide +kernel
theorem dX10_item_0 : decode cX10_item 0 = .ok (.aload_n 0, 1) := by decide +kernel
theorem dX10_item_1 : decode cX10_item 1 = .ok (.iload_n 1, 1) := by decide +kernel
theorem dX10_item_2 : decode cX10_item 2 = .ok (.invokevirtual 366, 3) := by decide +kernel
theorem dX10_item_5 : decode cX10_item 5 = .ok (.ifCond .ne 5, 3) := by decide +kernel
theorem dX10_item_8 : decode cX10_item 8 = .ok (.iconst (-1), 1) := by decide +kernel
theorem dX10_item_9 : decode cX10_item 9 = .ok (.ireturn, 1) := by decide +kernel
theorem dX10_item_10 : decode cX10_item 10 = .ok (.aload_n 0, 1) := by decide +kernel
theorem dX10_item_11 : decode cX10_item 11 = .ok (.getfield 199, 3) := by decide +kernel
theorem dX10_item_14 : decode cX10_item 14 = .ok (.iload_n 1, 1) := by decide +kernel
theorem dX10_item_15 : decode cX10_item 15 = .ok (.iaload, 1) := by decide +kernel
theorem dX10_item_16 : decode cX10_item 16 = .ok (.ifCond .ge 6, 3) := by decide +kernel
theorem dX10_item_19 : decode cX10_item 19 = .ok (.bipush (-11), 2) := by decide +kernel
theorem dX10_item_21 : decode cX10_item 21 = .ok (.ireturn, 1) := by decide +kernel
theorem dX10_item_22 : decode cX10_item 22 = .ok (.aload_n 0, 1) := by decide +kernel
theorem dX10_item_23 : decode cX10_item 23 = .ok (.iload_n 2, 1) := by decide +kernel
theorem dX10_item_24 : decode cX10_item 24 = .ok (.iconst 0, 1) := by decide +kernel
theorem dX10_item_25 : decode cX10_item 25 = .ok (.aload_n 0, 1) := by decide +kernel
theorem dX10_item_26 : decode cX10_item 26 = .ok (.getfield 202, 3) := by decide +kernel
theorem dX10_item_29 : decode cX10_item 29 = .ok (.iload_n 1, 1) := by decide +kernel
theorem dX10_item_30 : decode cX10_item 30 = .ok (.iaload, 1) := by decide +kernel
theorem dX10_item_31 : decode cX10_item 31 = .ok (.iconst 1, 1) := by decide +kernel
theorem dX10_item_32 : decode cX10_item 32 = .ok (.isub, 1) := by decide +kernel
theorem dX10_item_33 : decode cX10_item 33 = .ok (.invokevirtual 212, 3) := by decide +kernel
theorem dX10_item_36 : decode cX10_item 36 = .ok (.ifCond .ne 6, 3) := by decide +kernel
theorem dX10_item_39 : decode cX10_item 39 = .ok (.bipush (-13), 2) := by decide +kernel
theorem dX10_item_41 : decode cX10_item 41 = .ok (.ireturn, 1) := by decide +kernel
theorem dX10_item_42 : decode cX10_item 42 = .ok (.aload_n 0, 1) := by decide +kernel
theorem dX10_item_43 : decode cX10_item 43 = .ok (.getfield 205, 3) := by decide +kernel
theorem dX10_item_46 : decode cX10_item 46 = .ok (.bipush 60, 2) := by decide +kernel
theorem dX10_item_48 : decode cX10_item 48 = .ok (.iload_n 1, 1) := by decide +kernel
theorem dX10_item_49 : decode cX10_item 49 = .ok (.imul, 1) := by decide +kernel
theorem dX10_item_50 : decode cX10_item 50 = .ok (.iload_n 2, 1) := by decide +kernel
theorem dX10_item_51 : decode cX10_item 51 = .ok (.iadd, 1) := by decide +kernel
theorem dX10_item_52 : decode cX10_item 52 = .ok (.aload_n 0, 1) := by decide +kernel
theorem dX10_item_53 : decode cX10_item 53 = .ok (.aload_n 0, 1) := by decide +kernel
theorem dX10_item_54 : decode cX10_item 54 = .ok (.getfield 199, 3) := by decide +kernel
theorem dX10_item_57 : decode cX10_item 57 = .ok (.iload_n 1, 1) := by decide +kernel
theorem dX10_item_58 : decode cX10_item 58 = .ok (.iaload, 1) := by decide +kernel
theorem dX10_item_59 : decode cX10_item 59 = .ok (.lload_n 3, 1) := by decide +kernel
theorem dX10_item_60 : decode cX10_item 60 = .ok (.invokevirtual 393, 3) := by decide +kernel
theorem dX10_item_63 : decode cX10_item 63 = .ok (.lastore, 1) := by decide +kernel
theorem dX10_item_64 : decode cX10_item 64 = .ok (.iconst 1, 1) := by decide +kernel
theorem dX10_item_65 : decode cX10_item 65 = .ok (.ireturn, 1) := by decide +kernel
theorem dX10_read_0 : decode cX10_read 0 = .ok (.aload_n 0, 1) := by decide +kernel
theorem dX10_read_1 : decode cX10_read 1 = .ok (.iload_n 1, 1) := by decide +kernel
theorem dX10_read_2 : decode cX10_read 2 = .ok (.invokevirtual 366, 3) := by decide +kernel
theorem dX10_read_5 : decode cX10_read 5 = .ok (.ifCond .eq 29, 3) := by decide +kernel
theorem dX10_read_8 : decode cX10_read 8 = .ok (.aload_n 0, 1) := by decide +kernel
theorem dX10_read_9 : decode cX10_read 9 = .ok (.getfield 199, 3) := by decide +kernel
theorem dX10_read_12 : decode cX10_read 12 = .ok (.iload_n 1, 1) := by decide +kernel
theorem dX10_read_13 : decode cX10_read 13 = .ok (.iaload, 1) := by decide +kernel
theorem dX10_read_14 : decode cX10_read 14 = .ok (.ifCond .lt 20, 3) := by decide +kernel
theorem dX10_read_17 : decode cX10_read 17 = .ok (.aload_n 0, 1) := by decide +kernel
theorem dX10_read_18 : decode cX10_read 18 = .ok (.iload_n 2, 1) := by decide +kernel
theorem dX10_read_19 : decode cX10_read 19 = .ok (.iconst 0, 1) := by decide +kernel
theorem dX10_read_20 : decode cX10_read 20 = .ok (.aload_n 0, 1) := by decide +kernel
theorem dX10_read_21 : decode cX10_read 21 = .ok (.getfield 202, 3) := by decide +kernel
theorem dX10_read_24 : decode cX10_read 24 = .ok (.iload_n 1, 1) := by decide +kernel
theorem dX10_read_25 : decode cX10_read 25 = .ok (.iaload, 1) := by decide +kernel
theorem dX10_read_26 : decode cX10_read 26 = .ok (.iconst 1, 1) := by decide +kernel
theorem dX10_read_27 : decode cX10_read 27 = .ok (.isub, 1) := by decide +kernel
theorem dX10_read_28 : decode cX10_read 28 = .ok (.invokevirtual 212, 3) := by decide +kernel
theorem dX10_read_31 : decode cX10_read 31 = .ok (.ifCond .ne 9, 3) := by decide +kernel
theorem dX10_read_34 : decode cX10_read 34 = .ok (.ldc2_w 360, 3) := by decide +kernel
theorem dX10_read_37 : decode cX10_read 37 = .ok (.goto 14, 3) := by decide +kernel
theorem dX10_read_40 : decode cX10_read 40 = .ok (.aload_n 0, 1) := by decide +kernel
theorem dX10_read_41 : decode cX10_read 41 = .ok (.getfield 205, 3) := by decide +kernel
theorem dX10_read_44 : decode cX10_read 44 = .ok (.bipush 60, 2) := by decide +kernel
theorem dX10_read_46 : decode cX10_read 46 = .ok (.iload_n 1, 1) := by decide +kernel
theorem dX10_read_47 : decode cX10_read 47 = .ok (.imul, 1) := by decide +kernel
theorem dX10_read_48 : decode cX10_read 48 = .ok (.iload_n 2, 1) := by decide +kernel
theorem dX10_read_49 : decode cX10_read 49 = .ok (.iadd, 1) := by decide +kernel
theorem dX10_read_50 : decode cX10_read 50 = .ok (.laload, 1) := by decide +kernel
theorem dX10_read_51 : decode cX10_read 51 = .ok (.lreturn, 1) := by decide +kernel
theorem dX10_shift_0 : decode cX10_shift 0 = .ok (.aload_n 0, 1) := by decide +kernel
theorem dX10_shift_1 : decode cX10_shift 1 = .ok (.iload_n 1, 1) := by decide +kernel
theorem dX10_shift_2 : decode cX10_shift 2 = .ok (.invokevirtual 366, 3) := by decide +kernel
theorem dX10_shift_5 : decode cX10_shift 5 = .ok (.ifCond .eq 11, 3) := by decide +kernel
theorem dX10_shift_8 : decode cX10_shift 8 = .ok (.aload_n 0, 1) := by decide +kernel
theorem dX10_shift_9 : decode cX10_shift 9 = .ok (.iload_n 3, 1) := by decide +kernel
theorem dX10_shift_10 : decode cX10_shift 10 = .ok (.invokevirtual 366, 3) := by decide +kernel
theorem dX10_shift_13 : decode cX10_shift 13 = .ok (.ifCond .ne 5, 3) := by decide +kernel
theorem dX10_shift_16 : decode cX10_shift 16 = .ok (.iconst (-1), 1) := by decide +kernel
theorem dX10_shift_17 : decode cX10_shift 17 = .ok (.ireturn, 1) := by decide +kernel
theorem dX10_shift_18 : decode cX10_shift 18 = .ok (.aload_n 0, 1) := by decide +kernel
theorem dX10_shift_19 : decode cX10_shift 19 = .ok (.getfield 199, 3) := by decide +kernel
theorem dX10_shift_22 : decode cX10_shift 22 = .ok (.iload_n 1, 1) := by decide +kernel
theorem dX10_shift_23 : decode cX10_shift 23 = .ok (.iaload, 1) := by decide +kernel
theorem dX10_shift_24 : decode cX10_shift 24 = .ok (.ifCond .lt 12, 3) := by decide +kernel
theorem dX10_shift_27 : decode cX10_shift 27 = .ok (.aload_n 0, 1) := by decide +kernel
theorem dX10_shift_28 : decode cX10_shift 28 = .ok (.getfield 199, 3) := by decide +kernel
theorem dX10_shift_31 : decode cX10_shift 31 = .ok (.iload_n 3, 1) := by decide +kernel
theorem dX10_shift_32 : decode cX10_shift 32 = .ok (.iaload, 1) := by decide +kernel
theorem dX10_shift_33 : decode cX10_shift 33 = .ok (.ifCond .ge 6, 3) := by decide +kernel
theorem dX10_shift_36 : decode cX10_shift 36 = .ok (.bipush (-11), 2) := by decide +kernel
theorem dX10_shift_38 : decode cX10_shift 38 = .ok (.ireturn, 1) := by decide +kernel
theorem dX10_shift_39 : decode cX10_shift 39 = .ok (.aload_n 0, 1) := by decide +kernel
theorem dX10_shift_40 : decode cX10_shift 40 = .ok (.getfield 199, 3) := by decide +kernel
theorem dX10_shift_43 : decode cX10_shift 43 = .ok (.iload_n 1, 1) := by decide +kernel
theorem dX10_shift_44 : decode cX10_shift 44 = .ok (.iaload, 1) := by decide +kernel
theorem dX10_shift_45 : decode cX10_shift 45 = .ok (.aload_n 0, 1) := by decide +kernel
theorem dX10_shift_46 : decode cX10_shift 46 = .ok (.getfield 199, 3) := by decide +kernel
theorem dX10_shift_49 : decode cX10_shift 49 = .ok (.iload_n 3, 1) := by decide +kernel
theorem dX10_shift_50 : decode cX10_shift 50 = .ok (.iaload, 1) := by decide +kernel
theorem dX10_shift_51 : decode cX10_shift 51 = .ok (.if_icmp .eq 6, 3) := by decide +kernel
theorem dX10_shift_54 : decode cX10_shift 54 = .ok (.bipush (-12), 2) := by decide +kernel
theorem dX10_shift_56 : decode cX10_shift 56 = .ok (.ireturn, 1) := by decide +kernel
theorem dX10_shift_57 : decode cX10_shift 57 = .ok (.iload 5, 2) := by decide +kernel
theorem dX10_shift_59 : decode cX10_shift 59 = .ok (.ifCond .lt 39, 3) := by decide +kernel
theorem dX10_shift_62 : decode cX10_shift 62 = .ok (.iload_n 2, 1) := by decide +kernel
theorem dX10_shift_63 : decode cX10_shift 63 = .ok (.ifCond .lt 35, 3) := by decide +kernel
theorem dX10_shift_66 : decode cX10_shift 66 = .ok (.iload 4, 2) := by decide +kernel
theorem dX10_shift_68 : decode cX10_shift 68 = .ok (.ifCond .lt 30, 3) := by decide +kernel
theorem dX10_shift_71 : decode cX10_shift 71 = .ok (.iload_n 2, 1) := by decide +kernel
theorem dX10_shift_72 : decode cX10_shift 72 = .ok (.aload_n 0, 1) := by decide +kernel
theorem dX10_shift_73 : decode cX10_shift 73 = .ok (.getfield 202, 3) := by decide +kernel
theorem dX10_shift_76 : decode cX10_shift 76 = .ok (.iload_n 1, 1) := by decide +kernel
theorem dX10_shift_77 : decode cX10_shift 77 = .ok (.iaload, 1) := by decide +kernel
theorem dX10_shift_78 : decode cX10_shift 78 = .ok (.iload 5, 2) := by decide +kernel
theorem dX10_shift_80 : decode cX10_shift 80 = .ok (.isub, 1) := by decide +kernel
theorem dX10_shift_81 : decode cX10_shift 81 = .ok (.if_icmp .gt 17, 3) := by decide +kernel
theorem dX10_shift_84 : decode cX10_shift 84 = .ok (.iload 4, 2) := by decide +kernel
theorem dX10_shift_86 : decode cX10_shift 86 = .ok (.aload_n 0, 1) := by decide +kernel
theorem dX10_shift_87 : decode cX10_shift 87 = .ok (.getfield 202, 3) := by decide +kernel
theorem dX10_shift_90 : decode cX10_shift 90 = .ok (.iload_n 3, 1) := by decide +kernel
theorem dX10_shift_91 : decode cX10_shift 91 = .ok (.iaload, 1) := by decide +kernel
theorem dX10_shift_92 : decode cX10_shift 92 = .ok (.iload 5, 2) := by decide +kernel
theorem dX10_shift_94 : decode cX10_shift 94 = .ok (.isub, 1) := by decide +kernel
theorem dX10_shift_95 : decode cX10_shift 95 = .ok (.if_icmp .le 6, 3) := by decide +kernel
theorem dX10_shift_98 : decode cX10_shift 98 = .ok (.bipush (-13), 2) := by decide +kernel
theorem dX10_shift_100 : decode cX10_shift 100 = .ok (.ireturn, 1) := by decide +kernel
theorem dX10_shift_101 : decode cX10_shift 101 = .ok (.iconst 0, 1) := by decide +kernel
theorem dX10_shift_102 : decode cX10_shift 102 = .ok (.istore 6, 2) := by decide +kernel
theorem dX10_shift_104 : decode cX10_shift 104 = .ok (.iload 6, 2) := by decide +kernel
theorem dX10_shift_106 : decode cX10_shift 106 = .ok (.iload 5, 2) := by decide +kernel
theorem dX10_shift_108 : decode cX10_shift 108 = .ok (.if_icmp .ge 30, 3) := by decide +kernel
theorem dX10_shift_111 : decode cX10_shift 111 = .ok (.aload_n 0, 1) := by decide +kernel
theorem dX10_shift_112 : decode cX10_shift 112 = .ok (.getfield 209, 3) := by decide +kernel
theorem dX10_shift_115 : decode cX10_shift 115 = .ok (.iload 6, 2) := by decide +kernel
theorem dX10_shift_117 : decode cX10_shift 117 = .ok (.aload_n 0, 1) := by decide +kernel
theorem dX10_shift_118 : decode cX10_shift 118 = .ok (.getfield 205, 3) := by decide +kernel
theorem dX10_shift_121 : decode cX10_shift 121 = .ok (.bipush 60, 2) := by decide +kernel
theorem dX10_shift_123 : decode cX10_shift 123 = .ok (.iload_n 1, 1) := by decide +kernel
theorem dX10_shift_124 : decode cX10_shift 124 = .ok (.imul, 1) := by decide +kernel
theorem dX10_shift_125 : decode cX10_shift 125 = .ok (.iload_n 2, 1) := by decide +kernel
theorem dX10_shift_126 : decode cX10_shift 126 = .ok (.iadd, 1) := by decide +kernel
theorem dX10_shift_127 : decode cX10_shift 127 = .ok (.iload 6, 2) := by decide +kernel
theorem dX10_shift_129 : decode cX10_shift 129 = .ok (.iadd, 1) := by decide +kernel
theorem dX10_shift_130 : decode cX10_shift 130 = .ok (.laload, 1) := by decide +kernel
theorem dX10_shift_131 : decode cX10_shift 131 = .ok (.lastore, 1) := by decide +kernel
theorem dX10_shift_132 : decode cX10_shift 132 = .ok (.iinc 6 1, 3) := by decide +kernel
theorem dX10_shift_135 : decode cX10_shift 135 = .ok (.goto (-31), 3) := by decide +kernel
theorem dX10_shift_138 : decode cX10_shift 138 = .ok (.iconst 0, 1) := by decide +kernel
theorem dX10_shift_139 : decode cX10_shift 139 = .ok (.istore 6, 2) := by decide +kernel
theorem dX10_shift_141 : decode cX10_shift 141 = .ok (.iload 6, 2) := by decide +kernel
theorem dX10_shift_143 : decode cX10_shift 143 = .ok (.iload 5, 2) := by decide +kernel
theorem dX10_shift_145 : decode cX10_shift 145 = .ok (.if_icmp .ge 31, 3) := by decide +kernel
theorem dX10_shift_148 : decode cX10_shift 148 = .ok (.aload_n 0, 1) := by decide +kernel
theorem dX10_shift_149 : decode cX10_shift 149 = .ok (.getfield 205, 3) := by decide +kernel
theorem dX10_shift_152 : decode cX10_shift 152 = .ok (.bipush 60, 2) := by decide +kernel
theorem dX10_shift_154 : decode cX10_shift 154 = .ok (.iload_n 3, 1) := by decide +kernel
theorem dX10_shift_155 : decode cX10_shift 155 = .ok (.imul, 1) := by decide +kernel
theorem dX10_shift_156 : decode cX10_shift 156 = .ok (.iload 4, 2) := by decide +kernel
theorem dX10_shift_158 : decode cX10_shift 158 = .ok (.iadd, 1) := by decide +kernel
theorem dX10_shift_159 : decode cX10_shift 159 = .ok (.iload 6, 2) := by decide +kernel
theorem dX10_shift_161 : decode cX10_shift 161 = .ok (.iadd, 1) := by decide +kernel
theorem dX10_shift_162 : decode cX10_shift 162 = .ok (.aload_n 0, 1) := by decide +kernel
theorem dX10_shift_163 : decode cX10_shift 163 = .ok (.getfield 209, 3) := by decide +kernel
theorem dX10_shift_166 : decode cX10_shift 166 = .ok (.iload 6, 2) := by decide +kernel
theorem dX10_shift_168 : decode cX10_shift 168 = .ok (.laload, 1) := by decide +kernel
theorem dX10_shift_169 : decode cX10_shift 169 = .ok (.lastore, 1) := by decide +kernel
theorem dX10_shift_170 : decode cX10_shift 170 = .ok (.iinc 6 1, 3) := by decide +kernel
theorem dX10_shift_173 : decode cX10_shift 173 = .ok (.goto (-32), 3) := by decide +kernel
theorem dX10_shift_176 : decode cX10_shift 176 = .ok (.iload 5, 2) := by decide +kernel
theorem dX10_shift_178 : decode cX10_shift 178 = .ok (.ireturn, 1) := by decide +kernel
theorem dJ11_isValidCodePoint_9a6ad_0 : decode cJ11_isValidCodePoint_9a6ad 0 = .ok (.iload_n 0, 1) := by decide +kernel
theorem dJ11_isValidCodePoint_9a6ad_1 : decode cJ11_isValidCodePoint_9a6ad 1 = .ok (.bipush 16, 2) := by decide +kernel
theorem dJ11_isValidCodePoint_9a6ad_3 : decode cJ11_isValidCodePoint_9a6ad 3 = .ok (.iushr, 1) := by decide +kernel
theorem dJ11_isValidCodePoint_9a6ad_4 : decode cJ11_isValidCodePoint_9a6ad 4 = .ok (.istore_n 1, 1) := by decide +kernel
theorem dJ11_isValidCodePoint_9a6ad_5 : decode cJ11_isValidCodePoint_9a6ad 5 = .ok (.iload_n 1, 1) := by decide +kernel
theorem dJ11_isValidCodePoint_9a6ad_6 : decode cJ11_isValidCodePoint_9a6ad 6 = .ok (.bipush 17, 2) := by decide +kernel
theorem dJ11_isValidCodePoint_9a6ad_8 : decode cJ11_isValidCodePoint_9a6ad 8 = .ok (.if_icmp .ge 7, 3) := by decide +kernel
theorem dJ11_isValidCodePoint_9a6ad_11 : decode cJ11_isValidCodePoint_9a6ad 11 = .ok (.iconst 1, 1) := by decide +kernel
theorem dJ11_isValidCodePoint_9a6ad_12 : decode cJ11_isValidCodePoint_9a6ad 12 = .ok (.goto 4, 3) := by decide +kernel
theorem dJ11_isValidCodePoint_9a6ad_15 : decode cJ11_isValidCodePoint_9a6ad 15 = .ok (.iconst 0, 1) := by decide +kernel
theorem dJ11_isValidCodePoint_9a6ad_16 : decode cJ11_isValidCodePoint_9a6ad 16 = .ok (.ireturn, 1) := by decide +kernel
theorem dJ11_highSurrogate_5068e_0 : decode cJ11_highSurrogate_5068e 0 = .ok (.iload_n 0, 1) := by decide +kernel
theorem dJ11_highSurrogate_5068e_1 : decode cJ11_highSurrogate_5068e 1 = .ok (.bipush 10, 2) := by decide +kernel
theorem dJ11_highSurrogate_5068e_3 : decode cJ11_highSurrogate_5068e 3 = .ok (.iushr, 1) := by decide +kernel
theorem dJ11_highSurrogate_5068e_4 : decode cJ11_highSurrogate_5068e 4 = .ok (.ldc 110, 2) := by decide +kernel
theorem dJ11_highSurrogate_5068e_6 : decode cJ11_highSurrogate_5068e 6 = .ok (.iadd, 1) := by decide +kernel
theorem dJ11_highSurrogate_5068e_7 : decode cJ11_highSurrogate_5068e 7 = .ok (.i2c, 1) := by decide +kernel
theorem dJ11_highSurrogate_5068e_8 : decode cJ11_highSurrogate_5068e 8 = .ok (.ireturn, 1) := by decide +kernel
theorem dJ11_lowSurrogate_5068e_0 : decode cJ11_lowSurrogate_5068e 0 = .ok (.iload_n 0, 1) := by decide +kernel
theorem dJ11_lowSurrogate_5068e_1 : decode cJ11_lowSurrogate_5068e 1 = .ok (.sipush 1023, 3) := by decide +kernel
theorem dJ11_lowSurrogate_5068e_4 : decode cJ11_lowSurrogate_5068e 4 = .ok (.iand, 1) := by decide +kernel
theorem dJ11_lowSurrogate_5068e_5 : decode cJ11_lowSurrogate_5068e 5 = .ok (.ldc 76, 2) := by decide +kernel
theorem dJ11_lowSurrogate_5068e_7 : decode cJ11_lowSurrogate_5068e 7 = .ok (.iadd, 1) := by decide +kernel
theorem dJ11_lowSurrogate_5068e_8 : decode cJ11_lowSurrogate_5068e 8 = .ok (.i2c, 1) := by decide +kernel
theorem dJ11_lowSurrogate_5068e_9 : decode cJ11_lowSurrogate_5068e 9 = .ok (.ireturn, 1) := by decide +kernel
theorem dJ9_max_7cf53_0 : decode cJ9_max_7cf53 0 = .ok (.iload_n 0, 1) := by decide +kernel
theorem dJ9_max_7cf53_1 : decode cJ9_max_7cf53 1 = .ok (.iload_n 1, 1) := by decide +kernel
theorem dJ9_max_7cf53_2 : decode cJ9_max_7cf53 2 = .ok (.if_icmp .lt 7, 3) := by decide +kernel
theorem dJ9_max_7cf53_5 : decode cJ9_max_7cf53 5 = .ok (.iload_n 0, 1) := by decide +kernel
theorem dJ9_max_7cf53_6 : decode cJ9_max_7cf53 6 = .ok (.goto 4, 3) := by decide +kernel
theorem dJ9_max_7cf53_9 : decode cJ9_max_7cf53 9 = .ok (.iload_n 1, 1) := by decide +kernel
theorem dJ9_max_7cf53_10 : decode cJ9_max_7cf53 10 = .ok (.ireturn, 1) := by decide +kernel
theorem dJ9_min_7cf53_0 : decode cJ9_min_7cf53 0 = .ok (.iload_n 0, 1) := by decide +kernel
theorem dJ9_min_7cf53_1 : decode cJ9_min_7cf53 1 = .ok (.iload_n 1, 1) := by decide +kernel
theorem dJ9_min_7cf53_2 : decode cJ9_min_7cf53 2 = .ok (.if_icmp .gt 7, 3) := by decide +kernel
theorem dJ9_min_7cf53_5 : decode cJ9_min_7cf53 5 = .ok (.iload_n 0, 1) := by decide +kernel
theorem dJ9_min_7cf53_6 : decode cJ9_min_7cf53 6 = .ok (.goto 4, 3) := by decide +kernel
theorem dJ9_min_7cf53_9 : decode cJ9_min_7cf53 9 = .ok (.iload_n 1, 1) := by decide +kernel
theorem dJ9_min_7cf53_10 : decode cJ9_min_7cf53 10 = .ok (.ireturn, 1) := by decide +kernel
theorem dJ0_length_8abf5_0 : decode cJ0_length_8abf5 0 = .ok (.aload_n 0, 1) := by decide +kernel
theorem dJ0_length_8abf5_1 : decode cJ0_length_8abf5 1 = .ok (.getfield 9, 3) := by decide +kernel
theorem dJ0_length_8abf5_4 : decode cJ0_length_8abf5 4 = .ok (.arraylength, 1) := by decide +kernel
theorem dJ0_length_8abf5_5 : decode cJ0_length_8abf5 5 = .ok (.aload_n 0, 1) := by decide +kernel
theorem dJ0_length_8abf5_6 : decode cJ0_length_8abf5 6 = .ok (.invokevirtual 335, 3) := by decide +kernel
theorem dJ0_length_8abf5_9 : decode cJ0_length_8abf5 9 = .ok (.ishr, 1) := by decide +kernel
theorem dJ0_length_8abf5_10 : decode cJ0_length_8abf5 10 = .ok (.ireturn, 1) := by decide +kernel
theorem dJ0_charAt_5068e_0 : decode cJ0_charAt_5068e 0 = .ok (.aload_n 0, 1) := by decide +kernel
theorem dJ0_charAt_5068e_1 : decode cJ0_charAt_5068e 1 = .ok (.invokevirtual 492, 3) := by decide +kernel
theorem dJ0_charAt_5068e_4 : decode cJ0_charAt_5068e 4 = .ok (.ifCond .eq 12, 3) := by decide +kernel
theorem dJ0_charAt_5068e_7 : decode cJ0_charAt_5068e 7 = .ok (.aload_n 0, 1) := by decide +kernel
theorem dJ0_charAt_5068e_8 : decode cJ0_charAt_5068e 8 = .ok (.getfield 9, 3) := by decide +kernel
theorem dJ0_charAt_5068e_11 : decode cJ0_charAt_5068e 11 = .ok (.iload_n 1, 1) := by decide +kernel
theorem dJ0_charAt_5068e_12 : decode cJ0_charAt_5068e 12 = .ok (.invokestatic 495, 3) := by decide +kernel
theorem dJ0_charAt_5068e_15 : decode cJ0_charAt_5068e 15 = .ok (.ireturn, 1) := by decide +kernel
theorem dJ0_charAt_5068e_16 : decode cJ0_charAt_5068e 16 = .ok (.aload_n 0, 1) := by decide +kernel
theorem dJ0_charAt_5068e_17 : decode cJ0_charAt_5068e 17 = .ok (.getfield 9, 3) := by decide +kernel
theorem dJ0_charAt_5068e_20 : decode cJ0_charAt_5068e 20 = .ok (.iload_n 1, 1) := by decide +kernel
theorem dJ0_charAt_5068e_21 : decode cJ0_charAt_5068e 21 = .ok (.invokestatic 498, 3) := by decide +kernel
theorem dJ0_charAt_5068e_24 : decode cJ0_charAt_5068e 24 = .ok (.ireturn, 1) := by decide +kernel
theorem dJ0_indexOf_0f7a4_0 : decode cJ0_indexOf_0f7a4 0 = .ok (.aload_n 0, 1) := by decide +kernel
theorem dJ0_indexOf_0f7a4_1 : decode cJ0_indexOf_0f7a4 1 = .ok (.iload_n 1, 1) := by decide +kernel
theorem dJ0_indexOf_0f7a4_2 : decode cJ0_indexOf_0f7a4 2 = .ok (.iconst 0, 1) := by decide +kernel
theorem dJ0_indexOf_0f7a4_3 : decode cJ0_indexOf_0f7a4 3 = .ok (.invokevirtual 633, 3) := by decide +kernel
theorem dJ0_indexOf_0f7a4_6 : decode cJ0_indexOf_0f7a4 6 = .ok (.ireturn, 1) := by decide +kernel
theorem dJ0_indexOf_7cf53_0 : decode cJ0_indexOf_7cf53 0 = .ok (.aload_n 0, 1) := by decide +kernel
theorem dJ0_indexOf_7cf53_1 : decode cJ0_indexOf_7cf53 1 = .ok (.invokevirtual 492, 3) := by decide +kernel
theorem dJ0_indexOf_7cf53_4 : decode cJ0_indexOf_7cf53 4 = .ok (.ifCond .eq 19, 3) := by decide +kernel
theorem dJ0_indexOf_7cf53_7 : decode cJ0_indexOf_7cf53 7 = .ok (.aload_n 0, 1) := by decide +kernel
theorem dJ0_indexOf_7cf53_8 : decode cJ0_indexOf_7cf53 8 = .ok (.getfield 9, 3) := by decide +kernel
theorem dJ0_indexOf_7cf53_11 : decode cJ0_indexOf_7cf53 11 = .ok (.iload_n 1, 1) := by decide +kernel
theorem dJ0_indexOf_7cf53_12 : decode cJ0_indexOf_7cf53 12 = .ok (.iload_n 2, 1) := by decide +kernel
theorem dJ0_indexOf_7cf53_13 : decode cJ0_indexOf_7cf53 13 = .ok (.aload_n 0, 1) := by decide +kernel
theorem dJ0_indexOf_7cf53_14 : decode cJ0_indexOf_7cf53 14 = .ok (.invokevirtual 505, 3) := by decide +kernel
theorem dJ0_indexOf_7cf53_17 : decode cJ0_indexOf_7cf53 17 = .ok (.invokestatic 637, 3) := by decide +kernel
theorem dJ0_indexOf_7cf53_20 : decode cJ0_indexOf_7cf53 20 = .ok (.goto 16, 3) := by decide +kernel
theorem dJ0_indexOf_7cf53_23 : decode cJ0_indexOf_7cf53 23 = .ok (.aload_n 0, 1) := by decide +kernel
theorem dJ0_indexOf_7cf53_24 : decode cJ0_indexOf_7cf53 24 = .ok (.getfield 9, 3) := by decide +kernel
theorem dJ0_indexOf_7cf53_27 : decode cJ0_indexOf_7cf53 27 = .ok (.iload_n 1, 1) := by decide +kernel
theorem dJ0_indexOf_7cf53_28 : decode cJ0_indexOf_7cf53 28 = .ok (.iload_n 2, 1) := by decide +kernel
theorem dJ0_indexOf_7cf53_29 : decode cJ0_indexOf_7cf53 29 = .ok (.aload_n 0, 1) := by decide +kernel
theorem dJ0_indexOf_7cf53_30 : decode cJ0_indexOf_7cf53 30 = .ok (.invokevirtual 505, 3) := by decide +kernel
theorem dJ0_indexOf_7cf53_33 : decode cJ0_indexOf_7cf53 33 = .ok (.invokestatic 640, 3) := by decide +kernel
theorem dJ0_indexOf_7cf53_36 : decode cJ0_indexOf_7cf53 36 = .ok (.ireturn, 1) := by decide +kernel
theorem dJ0_coder_7d493_0 : decode cJ0_coder_7d493 0 = .ok (.getstatic 38, 3) := by decide +kernel
theorem dJ0_coder_7d493_3 : decode cJ0_coder_7d493 3 = .ok (.ifCond .eq 10, 3) := by decide +kernel
theorem dJ0_coder_7d493_6 : decode cJ0_coder_7d493 6 = .ok (.aload_n 0, 1) := by decide +kernel
theorem dJ0_coder_7d493_7 : decode cJ0_coder_7d493 7 = .ok (.getfield 15, 3) := by decide +kernel
theorem dJ0_coder_7d493_10 : decode cJ0_coder_7d493 10 = .ok (.goto 4, 3) := by decide +kernel
theorem dJ0_coder_7d493_13 : decode cJ0_coder_7d493 13 = .ok (.iconst 1, 1) := by decide +kernel
theorem dJ0_coder_7d493_14 : decode cJ0_coder_7d493 14 = .ok (.ireturn, 1) := by decide +kernel
theorem dJ0_isLatin1_aae02_0 : decode cJ0_isLatin1_aae02 0 = .ok (.getstatic 38, 3) := by decide +kernel
theorem dJ0_isLatin1_aae02_3 : decode cJ0_isLatin1_aae02 3 = .ok (.ifCond .eq 14, 3) := by decide +kernel
theorem dJ0_isLatin1_aae02_6 : decode cJ0_isLatin1_aae02 6 = .ok (.aload_n 0, 1) := by decide +kernel
theorem dJ0_isLatin1_aae02_7 : decode cJ0_isLatin1_aae02 7 = .ok (.getfield 15, 3) := by decide +kernel
theorem dJ0_isLatin1_aae02_10 : decode cJ0_isLatin1_aae02 10 = .ok (.ifCond .ne 7, 3) := by decide +kernel
theorem dJ0_isLatin1_aae02_13 : decode cJ0_isLatin1_aae02 13 = .ok (.iconst 1, 1) := by decide +kernel
theorem dJ0_isLatin1_aae02_14 : decode cJ0_isLatin1_aae02 14 = .ok (.goto 4, 3) := by decide +kernel
theorem dJ0_isLatin1_aae02_17 : decode cJ0_isLatin1_aae02 17 = .ok (.iconst 0, 1) := by decide +kernel
theorem dJ0_isLatin1_aae02_18 : decode cJ0_isLatin1_aae02 18 = .ok (.ireturn, 1) := by decide +kernel
theorem dJ0_checkIndex_df160_0 : decode cJ0_checkIndex_df160 0 = .ok (.iload_n 0, 1) := by decide +kernel
theorem dJ0_checkIndex_df160_1 : decode cJ0_checkIndex_df160 1 = .ok (.iload_n 1, 1) := by decide +kernel
theorem dJ0_checkIndex_df160_2 : decode cJ0_checkIndex_df160 2 = .ok (.getstatic 1053, 3) := by decide +kernel
theorem dJ0_checkIndex_df160_5 : decode cJ0_checkIndex_df160 5 = .ok (.invokestatic 1059, 3) := by decide +kernel
theorem dJ0_checkIndex_df160_8 : decode cJ0_checkIndex_df160 8 = .ok (.pop, 1) := by decide +kernel
theorem dJ0_checkIndex_df160_9 : decode cJ0_checkIndex_df160 9 = .ok (.return_, 1) := by decide +kernel
theorem dJ0_checkBoundsBeginEnd_23922_0 : decode cJ0_checkBoundsBeginEnd_23922 0 = .ok (.iload_n 0, 1) := by decide +kernel
theorem dJ0_checkBoundsBeginEnd_23922_1 : decode cJ0_checkBoundsBeginEnd_23922 1 = .ok (.iload_n 1, 1) := by decide +kernel
theorem dJ0_checkBoundsBeginEnd_23922_2 : decode cJ0_checkBoundsBeginEnd_23922 2 = .ok (.iload_n 2, 1) := by decide +kernel
theorem dJ0_checkBoundsBeginEnd_23922_3 : decode cJ0_checkBoundsBeginEnd_23922 3 = .ok (.getstatic 1053, 3) := by decide +kernel
theorem dJ0_checkBoundsBeginEnd_23922_6 : decode cJ0_checkBoundsBeginEnd_23922 6 = .ok (.invokestatic 1062, 3) := by decide +kernel
theorem dJ0_checkBoundsBeginEnd_23922_9 : decode cJ0_checkBoundsBeginEnd_23922 9 = .ok (.pop, 1) := by decide +kernel
theorem dJ0_checkBoundsBeginEnd_23922_10 : decode cJ0_checkBoundsBeginEnd_23922 10 = .ok (.return_, 1) := by decide +kernel
theorem dJ1_charAt_3b067_0 : decode cJ1_charAt_3b067 0 = .ok (.iload_n 1, 1) := by decide +kernel
theorem dJ1_charAt_3b067_1 : decode cJ1_charAt_3b067 1 = .ok (.aload_n 0, 1) := by decide +kernel
theorem dJ1_charAt_3b067_2 : decode cJ1_charAt_3b067 2 = .ok (.arraylength, 1) := by decide +kernel
theorem dJ1_charAt_3b067_3 : decode cJ1_charAt_3b067 3 = .ok (.invokestatic 9, 3) := by decide +kernel
theorem dJ1_charAt_3b067_6 : decode cJ1_charAt_3b067 6 = .ok (.aload_n 0, 1) := by decide +kernel
theorem dJ1_charAt_3b067_7 : decode cJ1_charAt_3b067 7 = .ok (.iload_n 1, 1) := by decide +kernel
theorem dJ1_charAt_3b067_8 : decode cJ1_charAt_3b067 8 = .ok (.baload, 1) := by decide +kernel
theorem dJ1_charAt_3b067_9 : decode cJ1_charAt_3b067 9 = .ok (.sipush 255, 3) := by decide +kernel
theorem dJ1_charAt_3b067_12 : decode cJ1_charAt_3b067 12 = .ok (.iand, 1) := by decide +kernel
theorem dJ1_charAt_3b067_13 : decode cJ1_charAt_3b067 13 = .ok (.i2c, 1) := by decide +kernel
theorem dJ1_charAt_3b067_14 : decode cJ1_charAt_3b067 14 = .ok (.ireturn, 1) := by decide +kernel
theorem dJ1_canEncode_9a6ad_0 : decode cJ1_canEncode_9a6ad 0 = .ok (.iload_n 0, 1) := by decide +kernel
theorem dJ1_canEncode_9a6ad_1 : decode cJ1_canEncode_9a6ad 1 = .ok (.ifCond .lt 14, 3) := by decide +kernel
theorem dJ1_canEncode_9a6ad_4 : decode cJ1_canEncode_9a6ad 4 = .ok (.iload_n 0, 1) := by decide +kernel
theorem dJ1_canEncode_9a6ad_5 : decode cJ1_canEncode_9a6ad 5 = .ok (.sipush 255, 3) := by decide +kernel
theorem dJ1_canEncode_9a6ad_8 : decode cJ1_canEncode_9a6ad 8 = .ok (.if_icmp .gt 7, 3) := by decide +kernel
theorem dJ1_canEncode_9a6ad_11 : decode cJ1_canEncode_9a6ad 11 = .ok (.iconst 1, 1) := by decide +kernel
theorem dJ1_canEncode_9a6ad_12 : decode cJ1_canEncode_9a6ad 12 = .ok (.goto 4, 3) := by decide +kernel
theorem dJ1_canEncode_9a6ad_15 : decode cJ1_canEncode_9a6ad 15 = .ok (.iconst 0, 1) := by decide +kernel
theorem dJ1_canEncode_9a6ad_16 : decode cJ1_canEncode_9a6ad 16 = .ok (.ireturn, 1) := by decide +kernel
theorem dJ1_indexOf_4cfef_0 : decode cJ1_indexOf_4cfef 0 = .ok (.iload_n 1, 1) := by decide +kernel
theorem dJ1_indexOf_4cfef_1 : decode cJ1_indexOf_4cfef 1 = .ok (.invokestatic 88, 3) := by decide +kernel
theorem dJ1_indexOf_4cfef_4 : decode cJ1_indexOf_4cfef 4 = .ok (.ifCond .ne 5, 3) := by decide +kernel
theorem dJ1_indexOf_4cfef_7 : decode cJ1_indexOf_4cfef 7 = .ok (.iconst (-1), 1) := by decide +kernel
theorem dJ1_indexOf_4cfef_8 : decode cJ1_indexOf_4cfef 8 = .ok (.ireturn, 1) := by decide +kernel
theorem dJ1_indexOf_4cfef_9 : decode cJ1_indexOf_4cfef 9 = .ok (.iload_n 2, 1) := by decide +kernel
theorem dJ1_indexOf_4cfef_10 : decode cJ1_indexOf_4cfef 10 = .ok (.iconst 0, 1) := by decide +kernel
theorem dJ1_indexOf_4cfef_11 : decode cJ1_indexOf_4cfef 11 = .ok (.invokestatic 92, 3) := by decide +kernel
theorem dJ1_indexOf_4cfef_14 : decode cJ1_indexOf_4cfef 14 = .ok (.istore_n 2, 1) := by decide +kernel
theorem dJ1_indexOf_4cfef_15 : decode cJ1_indexOf_4cfef 15 = .ok (.iload_n 3, 1) := by decide +kernel
theorem dJ1_indexOf_4cfef_16 : decode cJ1_indexOf_4cfef 16 = .ok (.aload_n 0, 1) := by decide +kernel
theorem dJ1_indexOf_4cfef_17 : decode cJ1_indexOf_4cfef 17 = .ok (.arraylength, 1) := by decide +kernel
theorem dJ1_indexOf_4cfef_18 : decode cJ1_indexOf_4cfef 18 = .ok (.invokestatic 38, 3) := by decide +kernel
theorem dJ1_indexOf_4cfef_21 : decode cJ1_indexOf_4cfef 21 = .ok (.istore_n 3, 1) := by decide +kernel
theorem dJ1_indexOf_4cfef_22 : decode cJ1_indexOf_4cfef 22 = .ok (.iload_n 2, 1) := by decide +kernel
theorem dJ1_indexOf_4cfef_23 : decode cJ1_indexOf_4cfef 23 = .ok (.iload_n 3, 1) := by decide +kernel
theorem dJ1_indexOf_4cfef_24 : decode cJ1_indexOf_4cfef 24 = .ok (.if_icmp .lt 5, 3) := by decide +kernel
theorem dJ1_indexOf_4cfef_27 : decode cJ1_indexOf_4cfef 27 = .ok (.iconst (-1), 1) := by decide +kernel
theorem dJ1_indexOf_4cfef_28 : decode cJ1_indexOf_4cfef 28 = .ok (.ireturn, 1) := by decide +kernel
theorem dJ1_indexOf_4cfef_29 : decode cJ1_indexOf_4cfef 29 = .ok (.aload_n 0, 1) := by decide +kernel
theorem dJ1_indexOf_4cfef_30 : decode cJ1_indexOf_4cfef 30 = .ok (.iload_n 1, 1) := by decide +kernel
theorem dJ1_indexOf_4cfef_31 : decode cJ1_indexOf_4cfef 31 = .ok (.iload_n 2, 1) := by decide +kernel
theorem dJ1_indexOf_4cfef_32 : decode cJ1_indexOf_4cfef 32 = .ok (.iload_n 3, 1) := by decide +kernel
theorem dJ1_indexOf_4cfef_33 : decode cJ1_indexOf_4cfef 33 = .ok (.invokestatic 95, 3) := by decide +kernel
theorem dJ1_indexOf_4cfef_36 : decode cJ1_indexOf_4cfef 36 = .ok (.ireturn, 1) := by decide +kernel
theorem dJ1_indexOfChar_4cfef_0 : decode cJ1_indexOfChar_4cfef 0 = .ok (.iload_n 1, 1) := by decide +kernel
theorem dJ1_indexOfChar_4cfef_1 : decode cJ1_indexOfChar_4cfef 1 = .ok (.i2b, 1) := by decide +kernel
theorem dJ1_indexOfChar_4cfef_2 : decode cJ1_indexOfChar_4cfef 2 = .ok (.istore 4, 2) := by decide +kernel
theorem dJ1_indexOfChar_4cfef_4 : decode cJ1_indexOfChar_4cfef 4 = .ok (.iload_n 2, 1) := by decide +kernel
theorem dJ1_indexOfChar_4cfef_5 : decode cJ1_indexOfChar_4cfef 5 = .ok (.istore 5, 2) := by decide +kernel
theorem dJ1_indexOfChar_4cfef_7 : decode cJ1_indexOfChar_4cfef 7 = .ok (.iload 5, 2) := by decide +kernel
theorem dJ1_indexOfChar_4cfef_9 : decode cJ1_indexOfChar_4cfef 9 = .ok (.iload_n 3, 1) := by decide +kernel
theorem dJ1_indexOfChar_4cfef_10 : decode cJ1_indexOfChar_4cfef 10 = .ok (.if_icmp .ge 21, 3) := by decide +kernel
theorem dJ1_indexOfChar_4cfef_13 : decode cJ1_indexOfChar_4cfef 13 = .ok (.aload_n 0, 1) := by decide +kernel
theorem dJ1_indexOfChar_4cfef_14 : decode cJ1_indexOfChar_4cfef 14 = .ok (.iload 5, 2) := by decide +kernel
theorem dJ1_indexOfChar_4cfef_16 : decode cJ1_indexOfChar_4cfef 16 = .ok (.baload, 1) := by decide +kernel
theorem dJ1_indexOfChar_4cfef_17 : decode cJ1_indexOfChar_4cfef 17 = .ok (.iload 4, 2) := by decide +kernel
theorem dJ1_indexOfChar_4cfef_19 : decode cJ1_indexOfChar_4cfef 19 = .ok (.if_icmp .ne 6, 3) := by decide +kernel
theorem dJ1_indexOfChar_4cfef_22 : decode cJ1_indexOfChar_4cfef 22 = .ok (.iload 5, 2) := by decide +kernel
theorem dJ1_indexOfChar_4cfef_24 : decode cJ1_indexOfChar_4cfef 24 = .ok (.ireturn, 1) := by decide +kernel
theorem dJ1_indexOfChar_4cfef_25 : decode cJ1_indexOfChar_4cfef 25 = .ok (.iinc 5 1, 3) := by decide +kernel
theorem dJ1_indexOfChar_4cfef_28 : decode cJ1_indexOfChar_4cfef 28 = .ok (.goto (-21), 3) := by decide +kernel
theorem dJ1_indexOfChar_4cfef_31 : decode cJ1_indexOfChar_4cfef 31 = .ok (.iconst (-1), 1) := by decide +kernel
theorem dJ1_indexOfChar_4cfef_32 : decode cJ1_indexOfChar_4cfef 32 = .ok (.ireturn, 1) := by decide +kernel
theorem dJ2_getChar_3b067_0 : decode cJ2_getChar_3b067 0 = .ok (.getstatic 44, 3) := by decide +kernel
theorem dJ2_getChar_3b067_3 : decode cJ2_getChar_3b067 3 = .ok (.ifCond .ne 25, 3) := by decide +kernel
theorem dJ2_getChar_3b067_6 : decode cJ2_getChar_3b067 6 = .ok (.iload_n 1, 1) := by decide +kernel
theorem dJ2_getChar_3b067_7 : decode cJ2_getChar_3b067 7 = .ok (.ifCond .lt 11, 3) := by decide +kernel
theorem dJ2_getChar_3b067_10 : decode cJ2_getChar_3b067 10 = .ok (.iload_n 1, 1) := by decide +kernel
theorem dJ2_getChar_3b067_11 : decode cJ2_getChar_3b067 11 = .ok (.aload_n 0, 1) := by decide +kernel
theorem dJ2_getChar_3b067_12 : decode cJ2_getChar_3b067 12 = .ok (.invokestatic 48, 3) := by decide +kernel
theorem dJ2_getChar_3b067_15 : decode cJ2_getChar_3b067 15 = .ok (.if_icmp .lt 13, 3) := by decide +kernel
theorem dJ2_getChar_3b067_18 : decode cJ2_getChar_3b067 18 = .ok (.new 52, 3) := by decide +kernel
theorem dJ2_getChar_3b067_21 : decode cJ2_getChar_3b067 21 = .ok (.dup, 1) := by decide +kernel
theorem dJ2_getChar_3b067_22 : decode cJ2_getChar_3b067 22 = .ok (.ldc 54, 2) := by decide +kernel
theorem dJ2_getChar_3b067_24 : decode cJ2_getChar_3b067 24 = .ok (.invokespecial 56, 3) := by decide +kernel
theorem dJ2_getChar_3b067_27 : decode cJ2_getChar_3b067 27 = .ok (.athrow, 1) := by decide +kernel
theorem dJ2_getChar_3b067_28 : decode cJ2_getChar_3b067 28 = .ok (.iload_n 1, 1) := by decide +kernel
theorem dJ2_getChar_3b067_29 : decode cJ2_getChar_3b067 29 = .ok (.iconst 1, 1) := by decide +kernel
theorem dJ2_getChar_3b067_30 : decode cJ2_getChar_3b067 30 = .ok (.ishl, 1) := by decide +kernel
theorem dJ2_getChar_3b067_31 : decode cJ2_getChar_3b067 31 = .ok (.istore_n 1, 1) := by decide +kernel
theorem dJ2_getChar_3b067_32 : decode cJ2_getChar_3b067 32 = .ok (.aload_n 0, 1) := by decide +kernel
theorem dJ2_getChar_3b067_33 : decode cJ2_getChar_3b067 33 = .ok (.iload_n 1, 1) := by decide +kernel
theorem dJ2_getChar_3b067_34 : decode cJ2_getChar_3b067 34 = .ok (.iinc 1 1, 3) := by decide +kernel
theorem dJ2_getChar_3b067_37 : decode cJ2_getChar_3b067 37 = .ok (.baload, 1) := by decide +kernel
theorem dJ2_getChar_3b067_38 : decode cJ2_getChar_3b067 38 = .ok (.sipush 255, 3) := by decide +kernel
theorem dJ2_getChar_3b067_41 : decode cJ2_getChar_3b067 41 = .ok (.iand, 1) := by decide +kernel
theorem dJ2_getChar_3b067_42 : decode cJ2_getChar_3b067 42 = .ok (.getstatic 59, 3) := by decide +kernel
theorem dJ2_getChar_3b067_45 : decode cJ2_getChar_3b067 45 = .ok (.ishl, 1) := by decide +kernel
theorem dJ2_getChar_3b067_46 : decode cJ2_getChar_3b067 46 = .ok (.aload_n 0, 1) := by decide +kernel
theorem dJ2_getChar_3b067_47 : decode cJ2_getChar_3b067 47 = .ok (.iload_n 1, 1) := by decide +kernel
theorem dJ2_getChar_3b067_48 : decode cJ2_getChar_3b067 48 = .ok (.baload, 1) := by decide +kernel
theorem dJ2_getChar_3b067_49 : decode cJ2_getChar_3b067 49 = .ok (.sipush 255, 3) := by decide +kernel
theorem dJ2_getChar_3b067_52 : decode cJ2_getChar_3b067 52 = .ok (.iand, 1) := by decide +kernel
theorem dJ2_getChar_3b067_53 : decode cJ2_getChar_3b067 53 = .ok (.getstatic 63, 3) := by decide +kernel
theorem dJ2_getChar_3b067_56 : decode cJ2_getChar_3b067 56 = .ok (.ishl, 1) := by decide +kernel
theorem dJ2_getChar_3b067_57 : decode cJ2_getChar_3b067 57 = .ok (.ior, 1) := by decide +kernel
theorem dJ2_getChar_3b067_58 : decode cJ2_getChar_3b067 58 = .ok (.i2c, 1) := by decide +kernel
theorem dJ2_getChar_3b067_59 : decode cJ2_getChar_3b067 59 = .ok (.ireturn, 1) := by decide +kernel
theorem dJ2_length_9d52b_0 : decode cJ2_length_9d52b 0 = .ok (.aload_n 0, 1) := by decide +kernel
theorem dJ2_length_9d52b_1 : decode cJ2_length_9d52b 1 = .ok (.arraylength, 1) := by decide +kernel
theorem dJ2_length_9d52b_2 : decode cJ2_length_9d52b 2 = .ok (.iconst 1, 1) := by decide +kernel
theorem dJ2_length_9d52b_3 : decode cJ2_length_9d52b 3 = .ok (.ishr, 1) := by decide +kernel
theorem dJ2_length_9d52b_4 : decode cJ2_length_9d52b 4 = .ok (.ireturn, 1) := by decide +kernel
theorem dJ2_indexOf_4cfef_0 : decode cJ2_indexOf_4cfef 0 = .ok (.iload_n 2, 1) := by decide +kernel
theorem dJ2_indexOf_4cfef_1 : decode cJ2_indexOf_4cfef 1 = .ok (.iconst 0, 1) := by decide +kernel
theorem dJ2_indexOf_4cfef_2 : decode cJ2_indexOf_4cfef 2 = .ok (.invokestatic 224, 3) := by decide +kernel
theorem dJ2_indexOf_4cfef_5 : decode cJ2_indexOf_4cfef 5 = .ok (.istore_n 2, 1) := by decide +kernel
theorem dJ2_indexOf_4cfef_6 : decode cJ2_indexOf_4cfef 6 = .ok (.iload_n 3, 1) := by decide +kernel
theorem dJ2_indexOf_4cfef_7 : decode cJ2_indexOf_4cfef 7 = .ok (.aload_n 0, 1) := by decide +kernel
theorem dJ2_indexOf_4cfef_8 : decode cJ2_indexOf_4cfef 8 = .ok (.arraylength, 1) := by decide +kernel
theorem dJ2_indexOf_4cfef_9 : decode cJ2_indexOf_4cfef 9 = .ok (.iconst 1, 1) := by decide +kernel
theorem dJ2_indexOf_4cfef_10 : decode cJ2_indexOf_4cfef 10 = .ok (.ishr, 1) := by decide +kernel
theorem dJ2_indexOf_4cfef_11 : decode cJ2_indexOf_4cfef 11 = .ok (.invokestatic 183, 3) := by decide +kernel
theorem dJ2_indexOf_4cfef_14 : decode cJ2_indexOf_4cfef 14 = .ok (.istore_n 3, 1) := by decide +kernel
theorem dJ2_indexOf_4cfef_15 : decode cJ2_indexOf_4cfef 15 = .ok (.iload_n 2, 1) := by decide +kernel
theorem dJ2_indexOf_4cfef_16 : decode cJ2_indexOf_4cfef 16 = .ok (.iload_n 3, 1) := by decide +kernel
theorem dJ2_indexOf_4cfef_17 : decode cJ2_indexOf_4cfef 17 = .ok (.if_icmp .lt 5, 3) := by decide +kernel
theorem dJ2_indexOf_4cfef_20 : decode cJ2_indexOf_4cfef 20 = .ok (.iconst (-1), 1) := by decide +kernel
theorem dJ2_indexOf_4cfef_21 : decode cJ2_indexOf_4cfef 21 = .ok (.ireturn, 1) := by decide +kernel
theorem dJ2_indexOf_4cfef_22 : decode cJ2_indexOf_4cfef 22 = .ok (.iload_n 1, 1) := by decide +kernel
theorem dJ2_indexOf_4cfef_23 : decode cJ2_indexOf_4cfef 23 = .ok (.ldc 227, 2) := by decide +kernel
theorem dJ2_indexOf_4cfef_25 : decode cJ2_indexOf_4cfef 25 = .ok (.if_icmp .ge 11, 3) := by decide +kernel
theorem dJ2_indexOf_4cfef_28 : decode cJ2_indexOf_4cfef 28 = .ok (.aload_n 0, 1) := by decide +kernel
theorem dJ2_indexOf_4cfef_29 : decode cJ2_indexOf_4cfef 29 = .ok (.iload_n 1, 1) := by decide +kernel
theorem dJ2_indexOf_4cfef_30 : decode cJ2_indexOf_4cfef 30 = .ok (.iload_n 2, 1) := by decide +kernel
theorem dJ2_indexOf_4cfef_31 : decode cJ2_indexOf_4cfef 31 = .ok (.iload_n 3, 1) := by decide +kernel
theorem dJ2_indexOf_4cfef_32 : decode cJ2_indexOf_4cfef 32 = .ok (.invokestatic 228, 3) := by decide +kernel
theorem dJ2_indexOf_4cfef_35 : decode cJ2_indexOf_4cfef 35 = .ok (.ireturn, 1) := by decide +kernel
theorem dJ2_indexOf_4cfef_36 : decode cJ2_indexOf_4cfef 36 = .ok (.aload_n 0, 1) := by decide +kernel
theorem dJ2_indexOf_4cfef_37 : decode cJ2_indexOf_4cfef 37 = .ok (.iload_n 1, 1) := by decide +kernel
theorem dJ2_indexOf_4cfef_38 : decode cJ2_indexOf_4cfef 38 = .ok (.iload_n 2, 1) := by decide +kernel
theorem dJ2_indexOf_4cfef_39 : decode cJ2_indexOf_4cfef 39 = .ok (.iload_n 3, 1) := by decide +kernel
theorem dJ2_indexOf_4cfef_40 : decode cJ2_indexOf_4cfef 40 = .ok (.invokestatic 232, 3) := by decide +kernel
theorem dJ2_indexOf_4cfef_43 : decode cJ2_indexOf_4cfef 43 = .ok (.ireturn, 1) := by decide +kernel
theorem dJ2_indexOfChar_4cfef_0 : decode cJ2_indexOfChar_4cfef 0 = .ok (.iload_n 2, 1) := by decide +kernel
theorem dJ2_indexOfChar_4cfef_1 : decode cJ2_indexOfChar_4cfef 1 = .ok (.iload_n 3, 1) := by decide +kernel
theorem dJ2_indexOfChar_4cfef_2 : decode cJ2_indexOfChar_4cfef 2 = .ok (.aload_n 0, 1) := by decide +kernel
theorem dJ2_indexOfChar_4cfef_3 : decode cJ2_indexOfChar_4cfef 3 = .ok (.invokestatic 96, 3) := by decide +kernel
theorem dJ2_indexOfChar_4cfef_6 : decode cJ2_indexOfChar_4cfef 6 = .ok (.aload_n 0, 1) := by decide +kernel
theorem dJ2_indexOfChar_4cfef_7 : decode cJ2_indexOfChar_4cfef 7 = .ok (.iload_n 1, 1) := by decide +kernel
theorem dJ2_indexOfChar_4cfef_8 : decode cJ2_indexOfChar_4cfef 8 = .ok (.iload_n 2, 1) := by decide +kernel
theorem dJ2_indexOfChar_4cfef_9 : decode cJ2_indexOfChar_4cfef 9 = .ok (.iload_n 3, 1) := by decide +kernel
theorem dJ2_indexOfChar_4cfef_10 : decode cJ2_indexOfChar_4cfef 10 = .ok (.invokestatic 244, 3) := by decide +kernel
theorem dJ2_indexOfChar_4cfef_13 : decode cJ2_indexOfChar_4cfef 13 = .ok (.ireturn, 1) := by decide +kernel
theorem dJ2_indexOfCharUnsafe_4cfef_0 : decode cJ2_indexOfCharUnsafe_4cfef 0 = .ok (.iload_n 2, 1) := by decide +kernel
theorem dJ2_indexOfCharUnsafe_4cfef_1 : decode cJ2_indexOfCharUnsafe_4cfef 1 = .ok (.istore 4, 2) := by decide +kernel
theorem dJ2_indexOfCharUnsafe_4cfef_3 : decode cJ2_indexOfCharUnsafe_4cfef 3 = .ok (.iload 4, 2) := by decide +kernel
theorem dJ2_indexOfCharUnsafe_4cfef_5 : decode cJ2_indexOfCharUnsafe_4cfef 5 = .ok (.iload_n 3, 1) := by decide +kernel
theorem dJ2_indexOfCharUnsafe_4cfef_6 : decode cJ2_indexOfCharUnsafe_4cfef 6 = .ok (.if_icmp .ge 22, 3) := by decide +kernel
theorem dJ2_indexOfCharUnsafe_4cfef_9 : decode cJ2_indexOfCharUnsafe_4cfef 9 = .ok (.aload_n 0, 1) := by decide +kernel
theorem dJ2_indexOfCharUnsafe_4cfef_10 : decode cJ2_indexOfCharUnsafe_4cfef 10 = .ok (.iload 4, 2) := by decide +kernel
theorem dJ2_indexOfCharUnsafe_4cfef_12 : decode cJ2_indexOfCharUnsafe_4cfef 12 = .ok (.invokestatic 71, 3) := by decide +kernel
theorem dJ2_indexOfCharUnsafe_4cfef_15 : decode cJ2_indexOfCharUnsafe_4cfef 15 = .ok (.iload_n 1, 1) := by decide +kernel
theorem dJ2_indexOfCharUnsafe_4cfef_16 : decode cJ2_indexOfCharUnsafe_4cfef 16 = .ok (.if_icmp .ne 6, 3) := by decide +kernel
theorem dJ2_indexOfCharUnsafe_4cfef_19 : decode cJ2_indexOfCharUnsafe_4cfef 19 = .ok (.iload 4, 2) := by decide +kernel
theorem dJ2_indexOfCharUnsafe_4cfef_21 : decode cJ2_indexOfCharUnsafe_4cfef 21 = .ok (.ireturn, 1) := by decide +kernel
theorem dJ2_indexOfCharUnsafe_4cfef_22 : decode cJ2_indexOfCharUnsafe_4cfef 22 = .ok (.iinc 4 1, 3) := by decide +kernel
theorem dJ2_indexOfCharUnsafe_4cfef_25 : decode cJ2_indexOfCharUnsafe_4cfef 25 = .ok (.goto (-22), 3) := by decide +kernel
theorem dJ2_indexOfCharUnsafe_4cfef_28 : decode cJ2_indexOfCharUnsafe_4cfef 28 = .ok (.iconst (-1), 1) := by decide +kernel
theorem dJ2_indexOfCharUnsafe_4cfef_29 : decode cJ2_indexOfCharUnsafe_4cfef 29 = .ok (.ireturn, 1) := by decide +kernel
theorem dJ2_indexOfSupplementary_4cfef_0 : decode cJ2_indexOfSupplementary_4cfef 0 = .ok (.iload_n 1, 1) := by decide +kernel
theorem dJ2_indexOfSupplementary_4cfef_1 : decode cJ2_indexOfSupplementary_4cfef 1 = .ok (.invokestatic 164, 3) := by decide +kernel
end
section
theorem dJ2_indexOfSupplementary_4cfef_4 : decode cJ2_indexOfSupplementary_4cfef 4 = .ok (.ifCond .eq 65, 3) := by decide +kernel
theorem dJ2_indexOfSupplementary_4cfef_7 : decode cJ2_indexOfSupplementary_4cfef 7 = .ok (.iload_n 1, 1) := by decide +kernel
theorem dJ2_indexOfSupplementary_4cfef_8 : decode cJ2_indexOfSupplementary_4cfef 8 = .ok (.invokestatic 157, 3) := by decide +kernel
theorem dJ2_indexOfSupplementary_4cfef_11 : decode cJ2_indexOfSupplementary_4cfef 11 = .ok (.istore 4, 2) := by decide +kernel
theorem dJ2_indexOfSupplementary_4cfef_13 : decode cJ2_indexOfSupplementary_4cfef 13 = .ok (.iload_n 1, 1) := by decide +kernel
theorem dJ2_indexOfSupplementary_4cfef_14 : decode cJ2_indexOfSupplementary_4cfef 14 = .ok (.invokestatic 161, 3) := by decide +kernel
theorem dJ2_indexOfSupplementary_4cfef_17 : decode cJ2_indexOfSupplementary_4cfef 17 = .ok (.istore 5, 2) := by decide +kernel
theorem dJ2_indexOfSupplementary_4cfef_19 : decode cJ2_indexOfSupplementary_4cfef 19 = .ok (.iload_n 2, 1) := by decide +kernel
theorem dJ2_indexOfSupplementary_4cfef_20 : decode cJ2_indexOfSupplementary_4cfef 20 = .ok (.iload_n 3, 1) := by decide +kernel
theorem dJ2_indexOfSupplementary_4cfef_21 : decode cJ2_indexOfSupplementary_4cfef 21 = .ok (.aload_n 0, 1) := by decide +kernel
theorem dJ2_indexOfSupplementary_4cfef_22 : decode cJ2_indexOfSupplementary_4cfef 22 = .ok (.invokestatic 96, 3) := by decide +kernel
theorem dJ2_indexOfSupplementary_4cfef_25 : decode cJ2_indexOfSupplementary_4cfef 25 = .ok (.iload_n 2, 1) := by decide +kernel
theorem dJ2_indexOfSupplementary_4cfef_26 : decode cJ2_indexOfSupplementary_4cfef 26 = .ok (.istore 6, 2) := by decide +kernel
theorem dJ2_indexOfSupplementary_4cfef_28 : decode cJ2_indexOfSupplementary_4cfef 28 = .ok (.iload 6, 2) := by decide +kernel
theorem dJ2_indexOfSupplementary_4cfef_30 : decode cJ2_indexOfSupplementary_4cfef 30 = .ok (.iload_n 3, 1) := by decide +kernel
theorem dJ2_indexOfSupplementary_4cfef_31 : decode cJ2_indexOfSupplementary_4cfef 31 = .ok (.iconst 1, 1) := by decide +kernel
theorem dJ2_indexOfSupplementary_4cfef_32 : decode cJ2_indexOfSupplementary_4cfef 32 = .ok (.isub, 1) := by decide +kernel
theorem dJ2_indexOfSupplementary_4cfef_33 : decode cJ2_indexOfSupplementary_4cfef 33 = .ok (.if_icmp .ge 36, 3) := by decide +kernel
theorem dJ2_indexOfSupplementary_4cfef_36 : decode cJ2_indexOfSupplementary_4cfef 36 = .ok (.aload_n 0, 1) := by decide +kernel
theorem dJ2_indexOfSupplementary_4cfef_37 : decode cJ2_indexOfSupplementary_4cfef 37 = .ok (.iload 6, 2) := by decide +kernel
theorem dJ2_indexOfSupplementary_4cfef_39 : decode cJ2_indexOfSupplementary_4cfef 39 = .ok (.invokestatic 71, 3) := by decide +kernel
theorem dJ2_indexOfSupplementary_4cfef_42 : decode cJ2_indexOfSupplementary_4cfef 42 = .ok (.iload 4, 2) := by decide +kernel
theorem dJ2_indexOfSupplementary_4cfef_44 : decode cJ2_indexOfSupplementary_4cfef 44 = .ok (.if_icmp .ne 19, 3) := by decide +kernel
theorem dJ2_indexOfSupplementary_4cfef_47 : decode cJ2_indexOfSupplementary_4cfef 47 = .ok (.aload_n 0, 1) := by decide +kernel
theorem dJ2_indexOfSupplementary_4cfef_48 : decode cJ2_indexOfSupplementary_4cfef 48 = .ok (.iload 6, 2) := by decide +kernel
theorem dJ2_indexOfSupplementary_4cfef_50 : decode cJ2_indexOfSupplementary_4cfef 50 = .ok (.iconst 1, 1) := by decide +kernel
theorem dJ2_indexOfSupplementary_4cfef_51 : decode cJ2_indexOfSupplementary_4cfef 51 = .ok (.iadd, 1) := by decide +kernel
theorem dJ2_indexOfSupplementary_4cfef_52 : decode cJ2_indexOfSupplementary_4cfef 52 = .ok (.invokestatic 71, 3) := by decide +kernel
theorem dJ2_indexOfSupplementary_4cfef_55 : decode cJ2_indexOfSupplementary_4cfef 55 = .ok (.iload 5, 2) := by decide +kernel
theorem dJ2_indexOfSupplementary_4cfef_57 : decode cJ2_indexOfSupplementary_4cfef 57 = .ok (.if_icmp .ne 6, 3) := by decide +kernel
theorem dJ2_indexOfSupplementary_4cfef_60 : decode cJ2_indexOfSupplementary_4cfef 60 = .ok (.iload 6, 2) := by decide +kernel
theorem dJ2_indexOfSupplementary_4cfef_62 : decode cJ2_indexOfSupplementary_4cfef 62 = .ok (.ireturn, 1) := by decide +kernel
theorem dJ2_indexOfSupplementary_4cfef_63 : decode cJ2_indexOfSupplementary_4cfef 63 = .ok (.iinc 6 1, 3) := by decide +kernel
theorem dJ2_indexOfSupplementary_4cfef_66 : decode cJ2_indexOfSupplementary_4cfef 66 = .ok (.goto (-38), 3) := by decide +kernel
theorem dJ2_indexOfSupplementary_4cfef_69 : decode cJ2_indexOfSupplementary_4cfef 69 = .ok (.iconst (-1), 1) := by decide +kernel
theorem dJ2_indexOfSupplementary_4cfef_70 : decode cJ2_indexOfSupplementary_4cfef 70 = .ok (.ireturn, 1) := by decide +kernel
theorem dJ2_charAt_3b067_0 : decode cJ2_charAt_3b067 0 = .ok (.iload_n 1, 1) := by decide +kernel
theorem dJ2_charAt_3b067_1 : decode cJ2_charAt_3b067 1 = .ok (.aload_n 0, 1) := by decide +kernel
theorem dJ2_charAt_3b067_2 : decode cJ2_charAt_3b067 2 = .ok (.invokestatic 67, 3) := by decide +kernel
theorem dJ2_charAt_3b067_5 : decode cJ2_charAt_3b067 5 = .ok (.aload_n 0, 1) := by decide +kernel
theorem dJ2_charAt_3b067_6 : decode cJ2_charAt_3b067 6 = .ok (.iload_n 1, 1) := by decide +kernel
theorem dJ2_charAt_3b067_7 : decode cJ2_charAt_3b067 7 = .ok (.invokestatic 71, 3) := by decide +kernel
theorem dJ2_charAt_3b067_10 : decode cJ2_charAt_3b067 10 = .ok (.ireturn, 1) := by decide +kernel
theorem dJ2_checkIndex_2214a_0 : decode cJ2_checkIndex_2214a 0 = .ok (.iload_n 0, 1) := by decide +kernel
theorem dJ2_checkIndex_2214a_1 : decode cJ2_checkIndex_2214a 1 = .ok (.aload_n 1, 1) := by decide +kernel
theorem dJ2_checkIndex_2214a_2 : decode cJ2_checkIndex_2214a 2 = .ok (.invokestatic 48, 3) := by decide +kernel
theorem dJ2_checkIndex_2214a_5 : decode cJ2_checkIndex_2214a 5 = .ok (.invokestatic 414, 3) := by decide +kernel
theorem dJ2_checkIndex_2214a_8 : decode cJ2_checkIndex_2214a 8 = .ok (.return_, 1) := by decide +kernel
theorem dJ2_checkBoundsBeginEnd_d044e_0 : decode cJ2_checkBoundsBeginEnd_d044e 0 = .ok (.iload_n 0, 1) := by decide +kernel
theorem dJ2_checkBoundsBeginEnd_d044e_1 : decode cJ2_checkBoundsBeginEnd_d044e 1 = .ok (.iload_n 1, 1) := by decide +kernel
theorem dJ2_checkBoundsBeginEnd_d044e_2 : decode cJ2_checkBoundsBeginEnd_d044e 2 = .ok (.aload_n 2, 1) := by decide +kernel
theorem dJ2_checkBoundsBeginEnd_d044e_3 : decode cJ2_checkBoundsBeginEnd_d044e 3 = .ok (.invokestatic 48, 3) := by decide +kernel
theorem dJ2_checkBoundsBeginEnd_d044e_6 : decode cJ2_checkBoundsBeginEnd_d044e 6 = .ok (.invokestatic 241, 3) := by decide +kernel
theorem dJ2_checkBoundsBeginEnd_d044e_9 : decode cJ2_checkBoundsBeginEnd_d044e 9 = .ok (.return_, 1) := by decide +kernel
theorem dJ7_fill_d0a16_0 : decode cJ7_fill_d0a16 0 = .ok (.iconst 0, 1) := by decide +kernel
theorem dJ7_fill_d0a16_1 : decode cJ7_fill_d0a16 1 = .ok (.istore_n 3, 1) := by decide +kernel
theorem dJ7_fill_d0a16_2 : decode cJ7_fill_d0a16 2 = .ok (.aload_n 0, 1) := by decide +kernel
theorem dJ7_fill_d0a16_3 : decode cJ7_fill_d0a16 3 = .ok (.arraylength, 1) := by decide +kernel
theorem dJ7_fill_d0a16_4 : decode cJ7_fill_d0a16 4 = .ok (.istore 4, 2) := by decide +kernel
theorem dJ7_fill_d0a16_6 : decode cJ7_fill_d0a16 6 = .ok (.iload_n 3, 1) := by decide +kernel
theorem dJ7_fill_d0a16_7 : decode cJ7_fill_d0a16 7 = .ok (.iload 4, 2) := by decide +kernel
theorem dJ7_fill_d0a16_9 : decode cJ7_fill_d0a16 9 = .ok (.if_icmp .ge 13, 3) := by decide +kernel
theorem dJ7_fill_d0a16_12 : decode cJ7_fill_d0a16 12 = .ok (.aload_n 0, 1) := by decide +kernel
theorem dJ7_fill_d0a16_13 : decode cJ7_fill_d0a16 13 = .ok (.iload_n 3, 1) := by decide +kernel
theorem dJ7_fill_d0a16_14 : decode cJ7_fill_d0a16 14 = .ok (.lload_n 1, 1) := by decide +kernel
theorem dJ7_fill_d0a16_15 : decode cJ7_fill_d0a16 15 = .ok (.lastore, 1) := by decide +kernel
theorem dJ7_fill_d0a16_16 : decode cJ7_fill_d0a16 16 = .ok (.iinc 3 1, 3) := by decide +kernel
theorem dJ7_fill_d0a16_19 : decode cJ7_fill_d0a16 19 = .ok (.goto (-13), 3) := by decide +kernel
theorem dJ7_fill_d0a16_22 : decode cJ7_fill_d0a16 22 = .ok (.return_, 1) := by decide +kernel
theorem dJ3_checkIndex_8e157_0 : decode cJ3_checkIndex_8e157 0 = .ok (.iload_n 0, 1) := by decide +kernel
theorem dJ3_checkIndex_8e157_1 : decode cJ3_checkIndex_8e157 1 = .ok (.ifCond .lt 8, 3) := by decide +kernel
theorem dJ3_checkIndex_8e157_4 : decode cJ3_checkIndex_8e157 4 = .ok (.iload_n 0, 1) := by decide +kernel
theorem dJ3_checkIndex_8e157_5 : decode cJ3_checkIndex_8e157 5 = .ok (.iload_n 1, 1) := by decide +kernel
theorem dJ3_checkIndex_8e157_6 : decode cJ3_checkIndex_8e157 6 = .ok (.if_icmp .lt 10, 3) := by decide +kernel
theorem dJ3_checkIndex_8e157_9 : decode cJ3_checkIndex_8e157 9 = .ok (.aload_n 2, 1) := by decide +kernel
theorem dJ3_checkIndex_8e157_10 : decode cJ3_checkIndex_8e157 10 = .ok (.iload_n 0, 1) := by decide +kernel
theorem dJ3_checkIndex_8e157_11 : decode cJ3_checkIndex_8e157 11 = .ok (.iload_n 1, 1) := by decide +kernel
theorem dJ3_checkIndex_8e157_12 : decode cJ3_checkIndex_8e157 12 = .ok (.invokestatic 95, 3) := by decide +kernel
theorem dJ3_checkIndex_8e157_15 : decode cJ3_checkIndex_8e157 15 = .ok (.athrow, 1) := by decide +kernel
theorem dJ3_checkIndex_8e157_16 : decode cJ3_checkIndex_8e157 16 = .ok (.iload_n 0, 1) := by decide +kernel
theorem dJ3_checkIndex_8e157_17 : decode cJ3_checkIndex_8e157 17 = .ok (.ireturn, 1) := by decide +kernel
theorem dJ3_checkFromToIndex_8c36e_0 : decode cJ3_checkFromToIndex_8c36e 0 = .ok (.iload_n 0, 1) := by decide +kernel
theorem dJ3_checkFromToIndex_8c36e_1 : decode cJ3_checkFromToIndex_8c36e 1 = .ok (.ifCond .lt 13, 3) := by decide +kernel
theorem dJ3_checkFromToIndex_8c36e_4 : decode cJ3_checkFromToIndex_8c36e 4 = .ok (.iload_n 0, 1) := by decide +kernel
theorem dJ3_checkFromToIndex_8c36e_5 : decode cJ3_checkFromToIndex_8c36e 5 = .ok (.iload_n 1, 1) := by decide +kernel
theorem dJ3_checkFromToIndex_8c36e_6 : decode cJ3_checkFromToIndex_8c36e 6 = .ok (.if_icmp .gt 8, 3) := by decide +kernel
theorem dJ3_checkFromToIndex_8c36e_9 : decode cJ3_checkFromToIndex_8c36e 9 = .ok (.iload_n 1, 1) := by decide +kernel
theorem dJ3_checkFromToIndex_8c36e_10 : decode cJ3_checkFromToIndex_8c36e 10 = .ok (.iload_n 2, 1) := by decide +kernel
theorem dJ3_checkFromToIndex_8c36e_11 : decode cJ3_checkFromToIndex_8c36e 11 = .ok (.if_icmp .le 11, 3) := by decide +kernel
theorem dJ3_checkFromToIndex_8c36e_14 : decode cJ3_checkFromToIndex_8c36e 14 = .ok (.aload_n 3, 1) := by decide +kernel
theorem dJ3_checkFromToIndex_8c36e_15 : decode cJ3_checkFromToIndex_8c36e 15 = .ok (.iload_n 0, 1) := by decide +kernel
theorem dJ3_checkFromToIndex_8c36e_16 : decode cJ3_checkFromToIndex_8c36e 16 = .ok (.iload_n 1, 1) := by decide +kernel
theorem dJ3_checkFromToIndex_8c36e_17 : decode cJ3_checkFromToIndex_8c36e 17 = .ok (.iload_n 2, 1) := by decide +kernel
theorem dJ3_checkFromToIndex_8c36e_18 : decode cJ3_checkFromToIndex_8c36e 18 = .ok (.invokestatic 99, 3) := by decide +kernel
theorem dJ3_checkFromToIndex_8c36e_21 : decode cJ3_checkFromToIndex_8c36e 21 = .ok (.athrow, 1) := by decide +kernel
theorem dJ3_checkFromToIndex_8c36e_22 : decode cJ3_checkFromToIndex_8c36e 22 = .ok (.iload_n 0, 1) := by decide +kernel
theorem dJ3_checkFromToIndex_8c36e_23 : decode cJ3_checkFromToIndex_8c36e 23 = .ok (.ireturn, 1) := by decide +kernel
theorem dL_law_0 : decode cL_law 0 = .ok (.new 7, 3) := by decide +kernel
theorem dL_law_3 : decode cL_law 3 = .ok (.dup, 1) := by decide +kernel
theorem dL_law_4 : decode cL_law 4 = .ok (.invokespecial 9, 3) := by decide +kernel
theorem dL_law_7 : decode cL_law 7 = .ok (.astore_n 1, 1) := by decide +kernel
theorem dL_law_8 : decode cL_law 8 = .ok (.new 10, 3) := by decide +kernel
theorem dL_law_11 : decode cL_law 11 = .ok (.dup, 1) := by decide +kernel
theorem dL_law_12 : decode cL_law 12 = .ok (.invokespecial 12, 3) := by decide +kernel
theorem dL_law_15 : decode cL_law 15 = .ok (.astore_n 2, 1) := by decide +kernel
theorem dL_law_16 : decode cL_law 16 = .ok (.iconst 0, 1) := by decide +kernel
theorem dL_law_17 : decode cL_law 17 = .ok (.istore_n 3, 1) := by decide +kernel
theorem dL_law_18 : decode cL_law 18 = .ok (.iload_n 3, 1) := by decide +kernel
theorem dL_law_19 : decode cL_law 19 = .ok (.aload_n 0, 1) := by decide +kernel
theorem dL_law_20 : decode cL_law 20 = .ok (.arraylength, 1) := by decide +kernel
theorem dL_law_21 : decode cL_law 21 = .ok (.bipush 6, 2) := by decide +kernel
theorem dL_law_23 : decode cL_law 23 = .ok (.isub, 1) := by decide +kernel
theorem dL_law_24 : decode cL_law 24 = .ok (.if_icmp .gt 1274, 3) := by decide +kernel
theorem dL_law_27 : decode cL_law 27 = .ok (.aload_n 0, 1) := by decide +kernel
theorem dL_law_28 : decode cL_law 28 = .ok (.iload_n 3, 1) := by decide +kernel
theorem dL_law_29 : decode cL_law 29 = .ok (.iaload, 1) := by decide +kernel
theorem dL_law_30 : decode cL_law 30 = .ok (.bipush 63, 2) := by decide +kernel
theorem dL_law_32 : decode cL_law 32 = .ok (.iand, 1) := by decide +kernel
theorem dL_law_33 : decode cL_law 33 = .ok (.tableswitch 1259 0 34 #[155, 198, 231, 264, 297, 346, 389, 412, 425, 448, 471, 494, 537, 560, 593, 606, 649, 682, 715, 749, 773, 796, 819, 852, 865, 898, 911, 924, 967, 990, 1023, 1046, 1089, 1162, 1196], 155) := by decide +kernel
theorem dL_law_188 : decode cL_law 188 = .ok (.aload_n 1, 1) := by decide +kernel
theorem dL_law_189 : decode cL_law 189 = .ok (.aload_n 0, 1) := by decide +kernel
theorem dL_law_190 : decode cL_law 190 = .ok (.iload_n 3, 1) := by decide +kernel
theorem dL_law_191 : decode cL_law 191 = .ok (.iconst 1, 1) := by decide +kernel
theorem dL_law_192 : decode cL_law 192 = .ok (.iadd, 1) := by decide +kernel
theorem dL_law_193 : decode cL_law 193 = .ok (.iaload, 1) := by decide +kernel
theorem dL_law_194 : decode cL_law 194 = .ok (.aload_n 0, 1) := by decide +kernel
theorem dL_law_195 : decode cL_law 195 = .ok (.iload_n 3, 1) := by decide +kernel
theorem dL_law_196 : decode cL_law 196 = .ok (.iconst 2, 1) := by decide +kernel
theorem dL_law_197 : decode cL_law 197 = .ok (.iadd, 1) := by decide +kernel
theorem dL_law_198 : decode cL_law 198 = .ok (.iaload, 1) := by decide +kernel
theorem dL_law_199 : decode cL_law 199 = .ok (.aload_n 0, 1) := by decide +kernel
theorem dL_law_200 : decode cL_law 200 = .ok (.iload_n 3, 1) := by decide +kernel
theorem dL_law_201 : decode cL_law 201 = .ok (.iconst 3, 1) := by decide +kernel
theorem dL_law_202 : decode cL_law 202 = .ok (.iadd, 1) := by decide +kernel
theorem dL_law_203 : decode cL_law 203 = .ok (.iaload, 1) := by decide +kernel
theorem dL_law_204 : decode cL_law 204 = .ok (.invokevirtual 13, 3) := by decide +kernel
theorem dL_law_207 : decode cL_law 207 = .ok (.aload_n 2, 1) := by decide +kernel
theorem dL_law_208 : decode cL_law 208 = .ok (.aload_n 0, 1) := by decide +kernel
theorem dL_law_209 : decode cL_law 209 = .ok (.iload_n 3, 1) := by decide +kernel
theorem dL_law_210 : decode cL_law 210 = .ok (.iconst 1, 1) := by decide +kernel
theorem dL_law_211 : decode cL_law 211 = .ok (.iadd, 1) := by decide +kernel
theorem dL_law_212 : decode cL_law 212 = .ok (.iaload, 1) := by decide +kernel
theorem dL_law_213 : decode cL_law 213 = .ok (.aload_n 0, 1) := by decide +kernel
theorem dL_law_214 : decode cL_law 214 = .ok (.iload_n 3, 1) := by decide +kernel
theorem dL_law_215 : decode cL_law 215 = .ok (.iconst 2, 1) := by decide +kernel
theorem dL_law_216 : decode cL_law 216 = .ok (.iadd, 1) := by decide +kernel
theorem dL_law_217 : decode cL_law 217 = .ok (.iaload, 1) := by decide +kernel
theorem dL_law_218 : decode cL_law 218 = .ok (.aload_n 0, 1) := by decide +kernel
theorem dL_law_219 : decode cL_law 219 = .ok (.iload_n 3, 1) := by decide +kernel
theorem dL_law_220 : decode cL_law 220 = .ok (.iconst 3, 1) := by decide +kernel
theorem dL_law_221 : decode cL_law 221 = .ok (.iadd, 1) := by decide +kernel
theorem dL_law_222 : decode cL_law 222 = .ok (.iaload, 1) := by decide +kernel
theorem dL_law_223 : decode cL_law 223 = .ok (.invokevirtual 17, 3) := by decide +kernel
theorem dL_law_226 : decode cL_law 226 = .ok (.if_icmp .eq 1066, 3) := by decide +kernel
theorem dL_law_229 : decode cL_law 229 = .ok (.iconst 0, 1) := by decide +kernel
theorem dL_law_230 : decode cL_law 230 = .ok (.ireturn, 1) := by decide +kernel
theorem dL_law_231 : decode cL_law 231 = .ok (.aload_n 1, 1) := by decide +kernel
theorem dL_law_232 : decode cL_law 232 = .ok (.aload_n 0, 1) := by decide +kernel
theorem dL_law_233 : decode cL_law 233 = .ok (.iload_n 3, 1) := by decide +kernel
theorem dL_law_234 : decode cL_law 234 = .ok (.iconst 1, 1) := by decide +kernel
theorem dL_law_235 : decode cL_law 235 = .ok (.iadd, 1) := by decide +kernel
theorem dL_law_236 : decode cL_law 236 = .ok (.iaload, 1) := by decide +kernel
theorem dL_law_237 : decode cL_law 237 = .ok (.aload_n 0, 1) := by decide +kernel
theorem dL_law_238 : decode cL_law 238 = .ok (.iload_n 3, 1) := by decide +kernel
theorem dL_law_239 : decode cL_law 239 = .ok (.iconst 2, 1) := by decide +kernel
theorem dL_law_240 : decode cL_law 240 = .ok (.iadd, 1) := by decide +kernel
theorem dL_law_241 : decode cL_law 241 = .ok (.iaload, 1) := by decide +kernel
theorem dL_law_242 : decode cL_law 242 = .ok (.invokevirtual 18, 3) := by decide +kernel
theorem dL_law_245 : decode cL_law 245 = .ok (.aload_n 2, 1) := by decide +kernel
theorem dL_law_246 : decode cL_law 246 = .ok (.aload_n 0, 1) := by decide +kernel
theorem dL_law_247 : decode cL_law 247 = .ok (.iload_n 3, 1) := by decide +kernel
theorem dL_law_248 : decode cL_law 248 = .ok (.iconst 1, 1) := by decide +kernel
theorem dL_law_249 : decode cL_law 249 = .ok (.iadd, 1) := by decide +kernel
theorem dL_law_250 : decode cL_law 250 = .ok (.iaload, 1) := by decide +kernel
theorem dL_law_251 : decode cL_law 251 = .ok (.aload_n 0, 1) := by decide +kernel
theorem dL_law_252 : decode cL_law 252 = .ok (.iload_n 3, 1) := by decide +kernel
theorem dL_law_253 : decode cL_law 253 = .ok (.iconst 2, 1) := by decide +kernel
theorem dL_law_254 : decode cL_law 254 = .ok (.iadd, 1) := by decide +kernel
theorem dL_law_255 : decode cL_law 255 = .ok (.iaload, 1) := by decide +kernel
theorem dL_law_256 : decode cL_law 256 = .ok (.invokevirtual 22, 3) := by decide +kernel
theorem dL_law_259 : decode cL_law 259 = .ok (.if_icmp .eq 1033, 3) := by decide +kernel
theorem dL_law_262 : decode cL_law 262 = .ok (.iconst 0, 1) := by decide +kernel
theorem dL_law_263 : decode cL_law 263 = .ok (.ireturn, 1) := by decide +kernel
theorem dL_law_264 : decode cL_law 264 = .ok (.aload_n 1, 1) := by decide +kernel
theorem dL_law_265 : decode cL_law 265 = .ok (.aload_n 0, 1) := by decide +kernel
theorem dL_law_266 : decode cL_law 266 = .ok (.iload_n 3, 1) := by decide +kernel
theorem dL_law_267 : decode cL_law 267 = .ok (.iconst 1, 1) := by decide +kernel
theorem dL_law_268 : decode cL_law 268 = .ok (.iadd, 1) := by decide +kernel
theorem dL_law_269 : decode cL_law 269 = .ok (.iaload, 1) := by decide +kernel
theorem dL_law_270 : decode cL_law 270 = .ok (.aload_n 0, 1) := by decide +kernel
theorem dL_law_271 : decode cL_law 271 = .ok (.iload_n 3, 1) := by decide +kernel
theorem dL_law_272 : decode cL_law 272 = .ok (.iconst 2, 1) := by decide +kernel
theorem dL_law_273 : decode cL_law 273 = .ok (.iadd, 1) := by decide +kernel
theorem dL_law_274 : decode cL_law 274 = .ok (.iaload, 1) := by decide +kernel
theorem dL_law_275 : decode cL_law 275 = .ok (.invokevirtual 23, 3) := by decide +kernel
theorem dL_law_278 : decode cL_law 278 = .ok (.aload_n 2, 1) := by decide +kernel
theorem dL_law_279 : decode cL_law 279 = .ok (.aload_n 0, 1) := by decide +kernel
theorem dL_law_280 : decode cL_law 280 = .ok (.iload_n 3, 1) := by decide +kernel
theorem dL_law_281 : decode cL_law 281 = .ok (.iconst 1, 1) := by decide +kernel
theorem dL_law_282 : decode cL_law 282 = .ok (.iadd, 1) := by decide +kernel
theorem dL_law_283 : decode cL_law 283 = .ok (.iaload, 1) := by decide +kernel
theorem dL_law_284 : decode cL_law 284 = .ok (.aload_n 0, 1) := by decide +kernel
theorem dL_law_285 : decode cL_law 285 = .ok (.iload_n 3, 1) := by decide +kernel
theorem dL_law_286 : decode cL_law 286 = .ok (.iconst 2, 1) := by decide +kernel
theorem dL_law_287 : decode cL_law 287 = .ok (.iadd, 1) := by decide +kernel
theorem dL_law_288 : decode cL_law 288 = .ok (.iaload, 1) := by decide +kernel
theorem dL_law_289 : decode cL_law 289 = .ok (.invokevirtual 26, 3) := by decide +kernel
theorem dL_law_292 : decode cL_law 292 = .ok (.if_icmp .eq 1000, 3) := by decide +kernel
theorem dL_law_295 : decode cL_law 295 = .ok (.iconst 0, 1) := by decide +kernel
theorem dL_law_296 : decode cL_law 296 = .ok (.ireturn, 1) := by decide +kernel
theorem dL_law_297 : decode cL_law 297 = .ok (.aload_n 1, 1) := by decide +kernel
theorem dL_law_298 : decode cL_law 298 = .ok (.aload_n 0, 1) := by decide +kernel
theorem dL_law_299 : decode cL_law 299 = .ok (.iload_n 3, 1) := by decide +kernel
theorem dL_law_300 : decode cL_law 300 = .ok (.iconst 1, 1) := by decide +kernel
theorem dL_law_301 : decode cL_law 301 = .ok (.iadd, 1) := by decide +kernel
theorem dL_law_302 : decode cL_law 302 = .ok (.iaload, 1) := by decide +kernel
theorem dL_law_303 : decode cL_law 303 = .ok (.aload_n 0, 1) := by decide +kernel
theorem dL_law_304 : decode cL_law 304 = .ok (.iload_n 3, 1) := by decide +kernel
theorem dL_law_305 : decode cL_law 305 = .ok (.iconst 2, 1) := by decide +kernel
theorem dL_law_306 : decode cL_law 306 = .ok (.iadd, 1) := by decide +kernel
theorem dL_law_307 : decode cL_law 307 = .ok (.iaload, 1) := by decide +kernel
theorem dL_law_308 : decode cL_law 308 = .ok (.invokevirtual 27, 3) := by decide +kernel
theorem dL_law_311 : decode cL_law 311 = .ok (.aload_n 2, 1) := by decide +kernel
theorem dL_law_312 : decode cL_law 312 = .ok (.aload_n 0, 1) := by decide +kernel
theorem dL_law_313 : decode cL_law 313 = .ok (.iload_n 3, 1) := by decide +kernel
theorem dL_law_314 : decode cL_law 314 = .ok (.iconst 1, 1) := by decide +kernel
theorem dL_law_315 : decode cL_law 315 = .ok (.iadd, 1) := by decide +kernel
theorem dL_law_316 : decode cL_law 316 = .ok (.iaload, 1) := by decide +kernel
theorem dL_law_317 : decode cL_law 317 = .ok (.aload_n 0, 1) := by decide +kernel
theorem dL_law_318 : decode cL_law 318 = .ok (.iload_n 3, 1) := by decide +kernel
theorem dL_law_319 : decode cL_law 319 = .ok (.iconst 2, 1) := by decide +kernel
theorem dL_law_320 : decode cL_law 320 = .ok (.iadd, 1) := by decide +kernel
theorem dL_law_321 : decode cL_law 321 = .ok (.iaload, 1) := by decide +kernel
theorem dL_law_322 : decode cL_law 322 = .ok (.invokevirtual 30, 3) := by decide +kernel
theorem dL_law_325 : decode cL_law 325 = .ok (.if_icmp .eq 967, 3) := by decide +kernel
theorem dL_law_328 : decode cL_law 328 = .ok (.iconst 0, 1) := by decide +kernel
theorem dL_law_329 : decode cL_law 329 = .ok (.ireturn, 1) := by decide +kernel
theorem dL_law_330 : decode cL_law 330 = .ok (.aload_n 1, 1) := by decide +kernel
theorem dL_law_331 : decode cL_law 331 = .ok (.aload_n 0, 1) := by decide +kernel
theorem dL_law_332 : decode cL_law 332 = .ok (.iload_n 3, 1) := by decide +kernel
theorem dL_law_333 : decode cL_law 333 = .ok (.iconst 1, 1) := by decide +kernel
theorem dL_law_334 : decode cL_law 334 = .ok (.iadd, 1) := by decide +kernel
theorem dL_law_335 : decode cL_law 335 = .ok (.iaload, 1) := by decide +kernel
theorem dL_law_336 : decode cL_law 336 = .ok (.aload_n 0, 1) := by decide +kernel
theorem dL_law_337 : decode cL_law 337 = .ok (.iload_n 3, 1) := by decide +kernel
theorem dL_law_338 : decode cL_law 338 = .ok (.iconst 2, 1) := by decide +kernel
theorem dL_law_339 : decode cL_law 339 = .ok (.iadd, 1) := by decide +kernel
theorem dL_law_340 : decode cL_law 340 = .ok (.iaload, 1) := by decide +kernel
theorem dL_law_341 : decode cL_law 341 = .ok (.ifCond .eq 7, 3) := by decide +kernel
theorem dL_law_344 : decode cL_law 344 = .ok (.iconst 1, 1) := by decide +kernel
theorem dL_law_345 : decode cL_law 345 = .ok (.goto 4, 3) := by decide +kernel
theorem dL_law_348 : decode cL_law 348 = .ok (.iconst 0, 1) := by decide +kernel
theorem dL_law_349 : decode cL_law 349 = .ok (.invokevirtual 31, 3) := by decide +kernel
theorem dL_law_352 : decode cL_law 352 = .ok (.aload_n 2, 1) := by decide +kernel
theorem dL_law_353 : decode cL_law 353 = .ok (.aload_n 0, 1) := by decide +kernel
theorem dL_law_354 : decode cL_law 354 = .ok (.iload_n 3, 1) := by decide +kernel
theorem dL_law_355 : decode cL_law 355 = .ok (.iconst 1, 1) := by decide +kernel
theorem dL_law_356 : decode cL_law 356 = .ok (.iadd, 1) := by decide +kernel
theorem dL_law_357 : decode cL_law 357 = .ok (.iaload, 1) := by decide +kernel
theorem dL_law_358 : decode cL_law 358 = .ok (.aload_n 0, 1) := by decide +kernel
theorem dL_law_359 : decode cL_law 359 = .ok (.iload_n 3, 1) := by decide +kernel
theorem dL_law_360 : decode cL_law 360 = .ok (.iconst 2, 1) := by decide +kernel
theorem dL_law_361 : decode cL_law 361 = .ok (.iadd, 1) := by decide +kernel
theorem dL_law_362 : decode cL_law 362 = .ok (.iaload, 1) := by decide +kernel
theorem dL_law_363 : decode cL_law 363 = .ok (.ifCond .eq 7, 3) := by decide +kernel
theorem dL_law_366 : decode cL_law 366 = .ok (.iconst 1, 1) := by decide +kernel
theorem dL_law_367 : decode cL_law 367 = .ok (.goto 4, 3) := by decide +kernel
theorem dL_law_370 : decode cL_law 370 = .ok (.iconst 0, 1) := by decide +kernel
theorem dL_law_371 : decode cL_law 371 = .ok (.invokevirtual 35, 3) := by decide +kernel
theorem dL_law_374 : decode cL_law 374 = .ok (.if_icmp .eq 918, 3) := by decide +kernel
theorem dL_law_377 : decode cL_law 377 = .ok (.iconst 0, 1) := by decide +kernel
theorem dL_law_378 : decode cL_law 378 = .ok (.ireturn, 1) := by decide +kernel
theorem dL_law_379 : decode cL_law 379 = .ok (.aload_n 1, 1) := by decide +kernel
theorem dL_law_380 : decode cL_law 380 = .ok (.aload_n 0, 1) := by decide +kernel
theorem dL_law_381 : decode cL_law 381 = .ok (.iload_n 3, 1) := by decide +kernel
theorem dL_law_382 : decode cL_law 382 = .ok (.iconst 1, 1) := by decide +kernel
theorem dL_law_383 : decode cL_law 383 = .ok (.iadd, 1) := by decide +kernel
theorem dL_law_384 : decode cL_law 384 = .ok (.iaload, 1) := by decide +kernel
theorem dL_law_385 : decode cL_law 385 = .ok (.aload_n 0, 1) := by decide +kernel
theorem dL_law_386 : decode cL_law 386 = .ok (.iload_n 3, 1) := by decide +kernel
theorem dL_law_387 : decode cL_law 387 = .ok (.iconst 2, 1) := by decide +kernel
theorem dL_law_388 : decode cL_law 388 = .ok (.iadd, 1) := by decide +kernel
theorem dL_law_389 : decode cL_law 389 = .ok (.iaload, 1) := by decide +kernel
theorem dL_law_390 : decode cL_law 390 = .ok (.aload_n 0, 1) := by decide +kernel
theorem dL_law_391 : decode cL_law 391 = .ok (.iload_n 3, 1) := by decide +kernel
theorem dL_law_392 : decode cL_law 392 = .ok (.iconst 3, 1) := by decide +kernel
theorem dL_law_393 : decode cL_law 393 = .ok (.iadd, 1) := by decide +kernel
theorem dL_law_394 : decode cL_law 394 = .ok (.iaload, 1) := by decide +kernel
theorem dL_law_395 : decode cL_law 395 = .ok (.invokevirtual 36, 3) := by decide +kernel
theorem dL_law_398 : decode cL_law 398 = .ok (.aload_n 2, 1) := by decide +kernel
theorem dL_law_399 : decode cL_law 399 = .ok (.aload_n 0, 1) := by decide +kernel
theorem dL_law_400 : decode cL_law 400 = .ok (.iload_n 3, 1) := by decide +kernel
theorem dL_law_401 : decode cL_law 401 = .ok (.iconst 1, 1) := by decide +kernel
theorem dL_law_402 : decode cL_law 402 = .ok (.iadd, 1) := by decide +kernel
theorem dL_law_403 : decode cL_law 403 = .ok (.iaload, 1) := by decide +kernel
theorem dL_law_404 : decode cL_law 404 = .ok (.aload_n 0, 1) := by decide +kernel
theorem dL_law_405 : decode cL_law 405 = .ok (.iload_n 3, 1) := by decide +kernel
theorem dL_law_406 : decode cL_law 406 = .ok (.iconst 2, 1) := by decide +kernel
theorem dL_law_407 : decode cL_law 407 = .ok (.iadd, 1) := by decide +kernel
theorem dL_law_408 : decode cL_law 408 = .ok (.iaload, 1) := by decide +kernel
theorem dL_law_409 : decode cL_law 409 = .ok (.aload_n 0, 1) := by decide +kernel
theorem dL_law_410 : decode cL_law 410 = .ok (.iload_n 3, 1) := by decide +kernel
theorem dL_law_411 : decode cL_law 411 = .ok (.iconst 3, 1) := by decide +kernel
theorem dL_law_412 : decode cL_law 412 = .ok (.iadd, 1) := by decide +kernel
theorem dL_law_413 : decode cL_law 413 = .ok (.iaload, 1) := by decide +kernel
theorem dL_law_414 : decode cL_law 414 = .ok (.invokevirtual 39, 3) := by decide +kernel
theorem dL_law_417 : decode cL_law 417 = .ok (.if_icmp .eq 875, 3) := by decide +kernel
theorem dL_law_420 : decode cL_law 420 = .ok (.iconst 0, 1) := by decide +kernel
theorem dL_law_421 : decode cL_law 421 = .ok (.ireturn, 1) := by decide +kernel
theorem dL_law_422 : decode cL_law 422 = .ok (.aload_n 1, 1) := by decide +kernel
theorem dL_law_423 : decode cL_law 423 = .ok (.aload_n 0, 1) := by decide +kernel
theorem dL_law_424 : decode cL_law 424 = .ok (.iload_n 3, 1) := by decide +kernel
theorem dL_law_425 : decode cL_law 425 = .ok (.iconst 1, 1) := by decide +kernel
theorem dL_law_426 : decode cL_law 426 = .ok (.iadd, 1) := by decide +kernel
theorem dL_law_427 : decode cL_law 427 = .ok (.iaload, 1) := by decide +kernel
theorem dL_law_428 : decode cL_law 428 = .ok (.invokevirtual 40, 3) := by decide +kernel
theorem dL_law_431 : decode cL_law 431 = .ok (.aload_n 2, 1) := by decide +kernel
theorem dL_law_432 : decode cL_law 432 = .ok (.aload_n 0, 1) := by decide +kernel
theorem dL_law_433 : decode cL_law 433 = .ok (.iload_n 3, 1) := by decide +kernel
theorem dL_law_434 : decode cL_law 434 = .ok (.iconst 1, 1) := by decide +kernel
theorem dL_law_435 : decode cL_law 435 = .ok (.iadd, 1) := by decide +kernel
theorem dL_law_436 : decode cL_law 436 = .ok (.iaload, 1) := by decide +kernel
theorem dL_law_437 : decode cL_law 437 = .ok (.invokevirtual 44, 3) := by decide +kernel
theorem dL_law_440 : decode cL_law 440 = .ok (.if_icmp .eq 852, 3) := by decide +kernel
theorem dL_law_443 : decode cL_law 443 = .ok (.iconst 0, 1) := by decide +kernel
theorem dL_law_444 : decode cL_law 444 = .ok (.ireturn, 1) := by decide +kernel
theorem dL_law_445 : decode cL_law 445 = .ok (.aload_n 1, 1) := by decide +kernel
theorem dL_law_446 : decode cL_law 446 = .ok (.invokevirtual 45, 3) := by decide +kernel
theorem dL_law_449 : decode cL_law 449 = .ok (.aload_n 2, 1) := by decide +kernel
theorem dL_law_450 : decode cL_law 450 = .ok (.invokevirtual 49, 3) := by decide +kernel
theorem dL_law_453 : decode cL_law 453 = .ok (.if_icmp .eq 839, 3) := by decide +kernel
theorem dL_law_456 : decode cL_law 456 = .ok (.iconst 0, 1) := by decide +kernel
theorem dL_law_457 : decode cL_law 457 = .ok (.ireturn, 1) := by decide +kernel
theorem dL_law_458 : decode cL_law 458 = .ok (.aload_n 1, 1) := by decide +kernel
theorem dL_law_459 : decode cL_law 459 = .ok (.aload_n 0, 1) := by decide +kernel
theorem dL_law_460 : decode cL_law 460 = .ok (.iload_n 3, 1) := by decide +kernel
theorem dL_law_461 : decode cL_law 461 = .ok (.iconst 1, 1) := by decide +kernel
theorem dL_law_462 : decode cL_law 462 = .ok (.iadd, 1) := by decide +kernel
theorem dL_law_463 : decode cL_law 463 = .ok (.iaload, 1) := by decide +kernel
theorem dL_law_464 : decode cL_law 464 = .ok (.invokevirtual 50, 3) := by decide +kernel
theorem dL_law_467 : decode cL_law 467 = .ok (.aload_n 2, 1) := by decide +kernel
theorem dL_law_468 : decode cL_law 468 = .ok (.aload_n 0, 1) := by decide +kernel
theorem dL_law_469 : decode cL_law 469 = .ok (.iload_n 3, 1) := by decide +kernel
theorem dL_law_470 : decode cL_law 470 = .ok (.iconst 1, 1) := by decide +kernel
theorem dL_law_471 : decode cL_law 471 = .ok (.iadd, 1) := by decide +kernel
theorem dL_law_472 : decode cL_law 472 = .ok (.iaload, 1) := by decide +kernel
theorem dL_law_473 : decode cL_law 473 = .ok (.invokevirtual 53, 3) := by decide +kernel
theorem dL_law_476 : decode cL_law 476 = .ok (.if_icmp .eq 816, 3) := by decide +kernel
theorem dL_law_479 : decode cL_law 479 = .ok (.iconst 0, 1) := by decide +kernel
theorem dL_law_480 : decode cL_law 480 = .ok (.ireturn, 1) := by decide +kernel
theorem dL_law_481 : decode cL_law 481 = .ok (.aload_n 1, 1) := by decide +kernel
theorem dL_law_482 : decode cL_law 482 = .ok (.aload_n 0, 1) := by decide +kernel
theorem dL_law_483 : decode cL_law 483 = .ok (.iload_n 3, 1) := by decide +kernel
theorem dL_law_484 : decode cL_law 484 = .ok (.iconst 1, 1) := by decide +kernel
theorem dL_law_485 : decode cL_law 485 = .ok (.iadd, 1) := by decide +kernel
theorem dL_law_486 : decode cL_law 486 = .ok (.iaload, 1) := by decide +kernel
theorem dL_law_487 : decode cL_law 487 = .ok (.invokevirtual 54, 3) := by decide +kernel
theorem dL_law_490 : decode cL_law 490 = .ok (.aload_n 2, 1) := by decide +kernel
theorem dL_law_491 : decode cL_law 491 = .ok (.aload_n 0, 1) := by decide +kernel
theorem dL_law_492 : decode cL_law 492 = .ok (.iload_n 3, 1) := by decide +kernel
theorem dL_law_493 : decode cL_law 493 = .ok (.iconst 1, 1) := by decide +kernel
theorem dL_law_494 : decode cL_law 494 = .ok (.iadd, 1) := by decide +kernel
theorem dL_law_495 : decode cL_law 495 = .ok (.iaload, 1) := by decide +kernel
theorem dL_law_496 : decode cL_law 496 = .ok (.invokevirtual 57, 3) := by decide +kernel
theorem dL_law_499 : decode cL_law 499 = .ok (.if_icmp .eq 793, 3) := by decide +kernel
theorem dL_law_502 : decode cL_law 502 = .ok (.iconst 0, 1) := by decide +kernel
theorem dL_law_503 : decode cL_law 503 = .ok (.ireturn, 1) := by decide +kernel
theorem dL_law_504 : decode cL_law 504 = .ok (.aload_n 1, 1) := by decide +kernel
theorem dL_law_505 : decode cL_law 505 = .ok (.aload_n 0, 1) := by decide +kernel
theorem dL_law_506 : decode cL_law 506 = .ok (.iload_n 3, 1) := by decide +kernel
theorem dL_law_507 : decode cL_law 507 = .ok (.iconst 1, 1) := by decide +kernel
theorem dL_law_508 : decode cL_law 508 = .ok (.iadd, 1) := by decide +kernel
theorem dL_law_509 : decode cL_law 509 = .ok (.iaload, 1) := by decide +kernel
theorem dL_law_510 : decode cL_law 510 = .ok (.invokevirtual 58, 3) := by decide +kernel
theorem dL_law_513 : decode cL_law 513 = .ok (.aload_n 2, 1) := by decide +kernel
theorem dL_law_514 : decode cL_law 514 = .ok (.aload_n 0, 1) := by decide +kernel
theorem dL_law_515 : decode cL_law 515 = .ok (.iload_n 3, 1) := by decide +kernel
theorem dL_law_516 : decode cL_law 516 = .ok (.iconst 1, 1) := by decide +kernel
theorem dL_law_517 : decode cL_law 517 = .ok (.iadd, 1) := by decide +kernel
theorem dL_law_518 : decode cL_law 518 = .ok (.iaload, 1) := by decide +kernel
theorem dL_law_519 : decode cL_law 519 = .ok (.invokevirtual 61, 3) := by decide +kernel
theorem dL_law_522 : decode cL_law 522 = .ok (.if_icmp .eq 770, 3) := by decide +kernel
theorem dL_law_525 : decode cL_law 525 = .ok (.iconst 0, 1) := by decide +kernel
theorem dL_law_526 : decode cL_law 526 = .ok (.ireturn, 1) := by decide +kernel
theorem dL_law_527 : decode cL_law 527 = .ok (.aload_n 1, 1) := by decide +kernel
theorem dL_law_528 : decode cL_law 528 = .ok (.aload_n 0, 1) := by decide +kernel
theorem dL_law_529 : decode cL_law 529 = .ok (.iload_n 3, 1) := by decide +kernel
theorem dL_law_530 : decode cL_law 530 = .ok (.iconst 1, 1) := by decide +kernel
theorem dL_law_531 : decode cL_law 531 = .ok (.iadd, 1) := by decide +kernel
theorem dL_law_532 : decode cL_law 532 = .ok (.iaload, 1) := by decide +kernel
theorem dL_law_533 : decode cL_law 533 = .ok (.aload_n 0, 1) := by decide +kernel
theorem dL_law_534 : decode cL_law 534 = .ok (.iload_n 3, 1) := by decide +kernel
theorem dL_law_535 : decode cL_law 535 = .ok (.iconst 2, 1) := by decide +kernel
theorem dL_law_536 : decode cL_law 536 = .ok (.iadd, 1) := by decide +kernel
theorem dL_law_537 : decode cL_law 537 = .ok (.iaload, 1) := by decide +kernel
theorem dL_law_538 : decode cL_law 538 = .ok (.aload_n 0, 1) := by decide +kernel
theorem dL_law_539 : decode cL_law 539 = .ok (.iload_n 3, 1) := by decide +kernel
theorem dL_law_540 : decode cL_law 540 = .ok (.iconst 3, 1) := by decide +kernel
theorem dL_law_541 : decode cL_law 541 = .ok (.iadd, 1) := by decide +kernel
theorem dL_law_542 : decode cL_law 542 = .ok (.iaload, 1) := by decide +kernel
theorem dL_law_543 : decode cL_law 543 = .ok (.invokevirtual 62, 3) := by decide +kernel
theorem dL_law_546 : decode cL_law 546 = .ok (.aload_n 2, 1) := by decide +kernel
theorem dL_law_547 : decode cL_law 547 = .ok (.aload_n 0, 1) := by decide +kernel
theorem dL_law_548 : decode cL_law 548 = .ok (.iload_n 3, 1) := by decide +kernel
theorem dL_law_549 : decode cL_law 549 = .ok (.iconst 1, 1) := by decide +kernel
theorem dL_law_550 : decode cL_law 550 = .ok (.iadd, 1) := by decide +kernel
theorem dL_law_551 : decode cL_law 551 = .ok (.iaload, 1) := by decide +kernel
theorem dL_law_552 : decode cL_law 552 = .ok (.aload_n 0, 1) := by decide +kernel
theorem dL_law_553 : decode cL_law 553 = .ok (.iload_n 3, 1) := by decide +kernel
theorem dL_law_554 : decode cL_law 554 = .ok (.iconst 2, 1) := by decide +kernel
theorem dL_law_555 : decode cL_law 555 = .ok (.iadd, 1) := by decide +kernel
theorem dL_law_556 : decode cL_law 556 = .ok (.iaload, 1) := by decide +kernel
theorem dL_law_557 : decode cL_law 557 = .ok (.aload_n 0, 1) := by decide +kernel
theorem dL_law_558 : decode cL_law 558 = .ok (.iload_n 3, 1) := by decide +kernel
theorem dL_law_559 : decode cL_law 559 = .ok (.iconst 3, 1) := by decide +kernel
theorem dL_law_560 : decode cL_law 560 = .ok (.iadd, 1) := by decide +kernel
theorem dL_law_561 : decode cL_law 561 = .ok (.iaload, 1) := by decide +kernel
theorem dL_law_562 : decode cL_law 562 = .ok (.invokevirtual 65, 3) := by decide +kernel
theorem dL_law_565 : decode cL_law 565 = .ok (.if_icmp .eq 727, 3) := by decide +kernel
theorem dL_law_568 : decode cL_law 568 = .ok (.iconst 0, 1) := by decide +kernel
theorem dL_law_569 : decode cL_law 569 = .ok (.ireturn, 1) := by decide +kernel
theorem dL_law_570 : decode cL_law 570 = .ok (.aload_n 1, 1) := by decide +kernel
theorem dL_law_571 : decode cL_law 571 = .ok (.aload_n 0, 1) := by decide +kernel
theorem dL_law_572 : decode cL_law 572 = .ok (.iload_n 3, 1) := by decide +kernel
theorem dL_law_573 : decode cL_law 573 = .ok (.iconst 1, 1) := by decide +kernel
theorem dL_law_574 : decode cL_law 574 = .ok (.iadd, 1) := by decide +kernel
theorem dL_law_575 : decode cL_law 575 = .ok (.iaload, 1) := by decide +kernel
theorem dL_law_576 : decode cL_law 576 = .ok (.invokevirtual 66, 3) := by decide +kernel
theorem dL_law_579 : decode cL_law 579 = .ok (.aload_n 2, 1) := by decide +kernel
theorem dL_law_580 : decode cL_law 580 = .ok (.aload_n 0, 1) := by decide +kernel
theorem dL_law_581 : decode cL_law 581 = .ok (.iload_n 3, 1) := by decide +kernel
theorem dL_law_582 : decode cL_law 582 = .ok (.iconst 1, 1) := by decide +kernel
theorem dL_law_583 : decode cL_law 583 = .ok (.iadd, 1) := by decide +kernel
theorem dL_law_584 : decode cL_law 584 = .ok (.iaload, 1) := by decide +kernel
theorem dL_law_585 : decode cL_law 585 = .ok (.invokevirtual 69, 3) := by decide +kernel
theorem dL_law_588 : decode cL_law 588 = .ok (.if_icmp .eq 704, 3) := by decide +kernel
theorem dL_law_591 : decode cL_law 591 = .ok (.iconst 0, 1) := by decide +kernel
theorem dL_law_592 : decode cL_law 592 = .ok (.ireturn, 1) := by decide +kernel
theorem dL_law_593 : decode cL_law 593 = .ok (.aload_n 1, 1) := by decide +kernel
theorem dL_law_594 : decode cL_law 594 = .ok (.aload_n 0, 1) := by decide +kernel
theorem dL_law_595 : decode cL_law 595 = .ok (.iload_n 3, 1) := by decide +kernel
theorem dL_law_596 : decode cL_law 596 = .ok (.iconst 1, 1) := by decide +kernel
theorem dL_law_597 : decode cL_law 597 = .ok (.iadd, 1) := by decide +kernel
theorem dL_law_598 : decode cL_law 598 = .ok (.iaload, 1) := by decide +kernel
theorem dL_law_599 : decode cL_law 599 = .ok (.aload_n 0, 1) := by decide +kernel
theorem dL_law_600 : decode cL_law 600 = .ok (.iload_n 3, 1) := by decide +kernel
theorem dL_law_601 : decode cL_law 601 = .ok (.iconst 2, 1) := by decide +kernel
theorem dL_law_602 : decode cL_law 602 = .ok (.iadd, 1) := by decide +kernel
theorem dL_law_603 : decode cL_law 603 = .ok (.iaload, 1) := by decide +kernel
theorem dL_law_604 : decode cL_law 604 = .ok (.invokevirtual 70, 3) := by decide +kernel
theorem dL_law_607 : decode cL_law 607 = .ok (.aload_n 2, 1) := by decide +kernel
theorem dL_law_608 : decode cL_law 608 = .ok (.aload_n 0, 1) := by decide +kernel
theorem dL_law_609 : decode cL_law 609 = .ok (.iload_n 3, 1) := by decide +kernel
theorem dL_law_610 : decode cL_law 610 = .ok (.iconst 1, 1) := by decide +kernel
theorem dL_law_611 : decode cL_law 611 = .ok (.iadd, 1) := by decide +kernel
theorem dL_law_612 : decode cL_law 612 = .ok (.iaload, 1) := by decide +kernel
theorem dL_law_613 : decode cL_law 613 = .ok (.aload_n 0, 1) := by decide +kernel
theorem dL_law_614 : decode cL_law 614 = .ok (.iload_n 3, 1) := by decide +kernel
theorem dL_law_615 : decode cL_law 615 = .ok (.iconst 2, 1) := by decide +kernel
theorem dL_law_616 : decode cL_law 616 = .ok (.iadd, 1) := by decide +kernel
theorem dL_law_617 : decode cL_law 617 = .ok (.iaload, 1) := by decide +kernel
theorem dL_law_618 : decode cL_law 618 = .ok (.invokevirtual 73, 3) := by decide +kernel
theorem dL_law_621 : decode cL_law 621 = .ok (.if_icmp .eq 671, 3) := by decide +kernel
theorem dL_law_624 : decode cL_law 624 = .ok (.iconst 0, 1) := by decide +kernel
theorem dL_law_625 : decode cL_law 625 = .ok (.ireturn, 1) := by decide +kernel
theorem dL_law_626 : decode cL_law 626 = .ok (.aload_n 1, 1) := by decide +kernel
theorem dL_law_627 : decode cL_law 627 = .ok (.invokevirtual 74, 3) := by decide +kernel
theorem dL_law_630 : decode cL_law 630 = .ok (.aload_n 2, 1) := by decide +kernel
theorem dL_law_631 : decode cL_law 631 = .ok (.invokevirtual 77, 3) := by decide +kernel
theorem dL_law_634 : decode cL_law 634 = .ok (.if_icmp .eq 658, 3) := by decide +kernel
theorem dL_law_637 : decode cL_law 637 = .ok (.iconst 0, 1) := by decide +kernel
theorem dL_law_638 : decode cL_law 638 = .ok (.ireturn, 1) := by decide +kernel
theorem dL_law_639 : decode cL_law 639 = .ok (.aload_n 1, 1) := by decide +kernel
theorem dL_law_640 : decode cL_law 640 = .ok (.aload_n 0, 1) := by decide +kernel
theorem dL_law_641 : decode cL_law 641 = .ok (.iload_n 3, 1) := by decide +kernel
theorem dL_law_642 : decode cL_law 642 = .ok (.iconst 1, 1) := by decide +kernel
theorem dL_law_643 : decode cL_law 643 = .ok (.iadd, 1) := by decide +kernel
theorem dL_law_644 : decode cL_law 644 = .ok (.iaload, 1) := by decide +kernel
theorem dL_law_645 : decode cL_law 645 = .ok (.aload_n 0, 1) := by decide +kernel
theorem dL_law_646 : decode cL_law 646 = .ok (.iload_n 3, 1) := by decide +kernel
theorem dL_law_647 : decode cL_law 647 = .ok (.iconst 2, 1) := by decide +kernel
theorem dL_law_648 : decode cL_law 648 = .ok (.iadd, 1) := by decide +kernel
theorem dL_law_649 : decode cL_law 649 = .ok (.iaload, 1) := by decide +kernel
theorem dL_law_650 : decode cL_law 650 = .ok (.aload_n 0, 1) := by decide +kernel
theorem dL_law_651 : decode cL_law 651 = .ok (.iload_n 3, 1) := by decide +kernel
theorem dL_law_652 : decode cL_law 652 = .ok (.iconst 3, 1) := by decide +kernel
theorem dL_law_653 : decode cL_law 653 = .ok (.iadd, 1) := by decide +kernel
theorem dL_law_654 : decode cL_law 654 = .ok (.iaload, 1) := by decide +kernel
theorem dL_law_655 : decode cL_law 655 = .ok (.invokevirtual 78, 3) := by decide +kernel
theorem dL_law_658 : decode cL_law 658 = .ok (.aload_n 2, 1) := by decide +kernel
theorem dL_law_659 : decode cL_law 659 = .ok (.aload_n 0, 1) := by decide +kernel
theorem dL_law_660 : decode cL_law 660 = .ok (.iload_n 3, 1) := by decide +kernel
theorem dL_law_661 : decode cL_law 661 = .ok (.iconst 1, 1) := by decide +kernel
theorem dL_law_662 : decode cL_law 662 = .ok (.iadd, 1) := by decide +kernel
theorem dL_law_663 : decode cL_law 663 = .ok (.iaload, 1) := by decide +kernel
theorem dL_law_664 : decode cL_law 664 = .ok (.aload_n 0, 1) := by decide +kernel
theorem dL_law_665 : decode cL_law 665 = .ok (.iload_n 3, 1) := by decide +kernel
theorem dL_law_666 : decode cL_law 666 = .ok (.iconst 2, 1) := by decide +kernel
theorem dL_law_667 : decode cL_law 667 = .ok (.iadd, 1) := by decide +kernel
theorem dL_law_668 : decode cL_law 668 = .ok (.iaload, 1) := by decide +kernel
theorem dL_law_669 : decode cL_law 669 = .ok (.aload_n 0, 1) := by decide +kernel
theorem dL_law_670 : decode cL_law 670 = .ok (.iload_n 3, 1) := by decide +kernel
theorem dL_law_671 : decode cL_law 671 = .ok (.iconst 3, 1) := by decide +kernel
theorem dL_law_672 : decode cL_law 672 = .ok (.iadd, 1) := by decide +kernel
theorem dL_law_673 : decode cL_law 673 = .ok (.iaload, 1) := by decide +kernel
theorem dL_law_674 : decode cL_law 674 = .ok (.invokevirtual 81, 3) := by decide +kernel
theorem dL_law_677 : decode cL_law 677 = .ok (.if_icmp .eq 615, 3) := by decide +kernel
theorem dL_law_680 : decode cL_law 680 = .ok (.iconst 0, 1) := by decide +kernel
theorem dL_law_681 : decode cL_law 681 = .ok (.ireturn, 1) := by decide +kernel
theorem dL_law_682 : decode cL_law 682 = .ok (.aload_n 1, 1) := by decide +kernel
theorem dL_law_683 : decode cL_law 683 = .ok (.aload_n 0, 1) := by decide +kernel
theorem dL_law_684 : decode cL_law 684 = .ok (.iload_n 3, 1) := by decide +kernel
theorem dL_law_685 : decode cL_law 685 = .ok (.iconst 1, 1) := by decide +kernel
theorem dL_law_686 : decode cL_law 686 = .ok (.iadd, 1) := by decide +kernel
theorem dL_law_687 : decode cL_law 687 = .ok (.iaload, 1) := by decide +kernel
theorem dL_law_688 : decode cL_law 688 = .ok (.aload_n 0, 1) := by decide +kernel
theorem dL_law_689 : decode cL_law 689 = .ok (.iload_n 3, 1) := by decide +kernel
theorem dL_law_690 : decode cL_law 690 = .ok (.iconst 2, 1) := by decide +kernel
theorem dL_law_691 : decode cL_law 691 = .ok (.iadd, 1) := by decide +kernel
theorem dL_law_692 : decode cL_law 692 = .ok (.iaload, 1) := by decide +kernel
theorem dL_law_693 : decode cL_law 693 = .ok (.invokevirtual 82, 3) := by decide +kernel
theorem dL_law_696 : decode cL_law 696 = .ok (.aload_n 2, 1) := by decide +kernel
theorem dL_law_697 : decode cL_law 697 = .ok (.aload_n 0, 1) := by decide +kernel
theorem dL_law_698 : decode cL_law 698 = .ok (.iload_n 3, 1) := by decide +kernel
theorem dL_law_699 : decode cL_law 699 = .ok (.iconst 1, 1) := by decide +kernel
theorem dL_law_700 : decode cL_law 700 = .ok (.iadd, 1) := by decide +kernel
theorem dL_law_701 : decode cL_law 701 = .ok (.iaload, 1) := by decide +kernel
theorem dL_law_702 : decode cL_law 702 = .ok (.aload_n 0, 1) := by decide +kernel
theorem dL_law_703 : decode cL_law 703 = .ok (.iload_n 3, 1) := by decide +kernel
theorem dL_law_704 : decode cL_law 704 = .ok (.iconst 2, 1) := by decide +kernel
theorem dL_law_705 : decode cL_law 705 = .ok (.iadd, 1) := by decide +kernel
theorem dL_law_706 : decode cL_law 706 = .ok (.iaload, 1) := by decide +kernel
theorem dL_law_707 : decode cL_law 707 = .ok (.invokevirtual 85, 3) := by decide +kernel
theorem dL_law_710 : decode cL_law 710 = .ok (.if_icmp .eq 582, 3) := by decide +kernel
theorem dL_law_713 : decode cL_law 713 = .ok (.iconst 0, 1) := by decide +kernel
theorem dL_law_714 : decode cL_law 714 = .ok (.ireturn, 1) := by decide +kernel
theorem dL_law_715 : decode cL_law 715 = .ok (.aload_n 1, 1) := by decide +kernel
theorem dL_law_716 : decode cL_law 716 = .ok (.aload_n 0, 1) := by decide +kernel
theorem dL_law_717 : decode cL_law 717 = .ok (.iload_n 3, 1) := by decide +kernel
theorem dL_law_718 : decode cL_law 718 = .ok (.iconst 1, 1) := by decide +kernel
theorem dL_law_719 : decode cL_law 719 = .ok (.iadd, 1) := by decide +kernel
theorem dL_law_720 : decode cL_law 720 = .ok (.iaload, 1) := by decide +kernel
theorem dL_law_721 : decode cL_law 721 = .ok (.aload_n 0, 1) := by decide +kernel
theorem dL_law_722 : decode cL_law 722 = .ok (.iload_n 3, 1) := by decide +kernel
theorem dL_law_723 : decode cL_law 723 = .ok (.iconst 2, 1) := by decide +kernel
theorem dL_law_724 : decode cL_law 724 = .ok (.iadd, 1) := by decide +kernel
theorem dL_law_725 : decode cL_law 725 = .ok (.iaload, 1) := by decide +kernel
theorem dL_law_726 : decode cL_law 726 = .ok (.invokevirtual 86, 3) := by decide +kernel
theorem dL_law_729 : decode cL_law 729 = .ok (.aload_n 2, 1) := by decide +kernel
theorem dL_law_730 : decode cL_law 730 = .ok (.aload_n 0, 1) := by decide +kernel
theorem dL_law_731 : decode cL_law 731 = .ok (.iload_n 3, 1) := by decide +kernel
theorem dL_law_732 : decode cL_law 732 = .ok (.iconst 1, 1) := by decide +kernel
theorem dL_law_733 : decode cL_law 733 = .ok (.iadd, 1) := by decide +kernel
theorem dL_law_734 : decode cL_law 734 = .ok (.iaload, 1) := by decide +kernel
theorem dL_law_735 : decode cL_law 735 = .ok (.aload_n 0, 1) := by decide +kernel
theorem dL_law_736 : decode cL_law 736 = .ok (.iload_n 3, 1) := by decide +kernel
theorem dL_law_737 : decode cL_law 737 = .ok (.iconst 2, 1) := by decide +kernel
theorem dL_law_738 : decode cL_law 738 = .ok (.iadd, 1) := by decide +kernel
theorem dL_law_739 : decode cL_law 739 = .ok (.iaload, 1) := by decide +kernel
theorem dL_law_740 : decode cL_law 740 = .ok (.invokevirtual 89, 3) := by decide +kernel
theorem dL_law_743 : decode cL_law 743 = .ok (.if_icmp .eq 549, 3) := by decide +kernel
theorem dL_law_746 : decode cL_law 746 = .ok (.iconst 0, 1) := by decide +kernel
theorem dL_law_747 : decode cL_law 747 = .ok (.ireturn, 1) := by decide +kernel
theorem dL_law_748 : decode cL_law 748 = .ok (.aload_n 1, 1) := by decide +kernel
theorem dL_law_749 : decode cL_law 749 = .ok (.aload_n 0, 1) := by decide +kernel
theorem dL_law_750 : decode cL_law 750 = .ok (.iload_n 3, 1) := by decide +kernel
theorem dL_law_751 : decode cL_law 751 = .ok (.iconst 1, 1) := by decide +kernel
theorem dL_law_752 : decode cL_law 752 = .ok (.iadd, 1) := by decide +kernel
theorem dL_law_753 : decode cL_law 753 = .ok (.iaload, 1) := by decide +kernel
theorem dL_law_754 : decode cL_law 754 = .ok (.aload_n 0, 1) := by decide +kernel
theorem dL_law_755 : decode cL_law 755 = .ok (.iload_n 3, 1) := by decide +kernel
theorem dL_law_756 : decode cL_law 756 = .ok (.iconst 2, 1) := by decide +kernel
theorem dL_law_757 : decode cL_law 757 = .ok (.iadd, 1) := by decide +kernel
theorem dL_law_758 : decode cL_law 758 = .ok (.iaload, 1) := by decide +kernel
theorem dL_law_759 : decode cL_law 759 = .ok (.invokevirtual 90, 3) := by decide +kernel
theorem dL_law_762 : decode cL_law 762 = .ok (.aload_n 2, 1) := by decide +kernel
theorem dL_law_763 : decode cL_law 763 = .ok (.aload_n 0, 1) := by decide +kernel
theorem dL_law_764 : decode cL_law 764 = .ok (.iload_n 3, 1) := by decide +kernel
theorem dL_law_765 : decode cL_law 765 = .ok (.iconst 1, 1) := by decide +kernel
theorem dL_law_766 : decode cL_law 766 = .ok (.iadd, 1) := by decide +kernel
theorem dL_law_767 : decode cL_law 767 = .ok (.iaload, 1) := by decide +kernel
theorem dL_law_768 : decode cL_law 768 = .ok (.aload_n 0, 1) := by decide +kernel
theorem dL_law_769 : decode cL_law 769 = .ok (.iload_n 3, 1) := by decide +kernel
theorem dL_law_770 : decode cL_law 770 = .ok (.iconst 2, 1) := by decide +kernel
theorem dL_law_771 : decode cL_law 771 = .ok (.iadd, 1) := by decide +kernel
theorem dL_law_772 : decode cL_law 772 = .ok (.iaload, 1) := by decide +kernel
theorem dL_law_773 : decode cL_law 773 = .ok (.invokevirtual 94, 3) := by decide +kernel
theorem dL_law_776 : decode cL_law 776 = .ok (.lcmp, 1) := by decide +kernel
theorem dL_law_777 : decode cL_law 777 = .ok (.ifCond .eq 515, 3) := by decide +kernel
theorem dL_law_780 : decode cL_law 780 = .ok (.iconst 0, 1) := by decide +kernel
theorem dL_law_781 : decode cL_law 781 = .ok (.ireturn, 1) := by decide +kernel
theorem dL_law_782 : decode cL_law 782 = .ok (.aload_n 1, 1) := by decide +kernel
theorem dL_law_783 : decode cL_law 783 = .ok (.aload_n 0, 1) := by decide +kernel
theorem dL_law_784 : decode cL_law 784 = .ok (.iload_n 3, 1) := by decide +kernel
theorem dL_law_785 : decode cL_law 785 = .ok (.iconst 1, 1) := by decide +kernel
theorem dL_law_786 : decode cL_law 786 = .ok (.iadd, 1) := by decide +kernel
theorem dL_law_787 : decode cL_law 787 = .ok (.iaload, 1) := by decide +kernel
theorem dL_law_788 : decode cL_law 788 = .ok (.invokevirtual 95, 3) := by decide +kernel
theorem dL_law_791 : decode cL_law 791 = .ok (.aload_n 2, 1) := by decide +kernel
theorem dL_law_792 : decode cL_law 792 = .ok (.aload_n 0, 1) := by decide +kernel
theorem dL_law_793 : decode cL_law 793 = .ok (.iload_n 3, 1) := by decide +kernel
theorem dL_law_794 : decode cL_law 794 = .ok (.iconst 1, 1) := by decide +kernel
theorem dL_law_795 : decode cL_law 795 = .ok (.iadd, 1) := by decide +kernel
theorem dL_law_796 : decode cL_law 796 = .ok (.iaload, 1) := by decide +kernel
theorem dL_law_797 : decode cL_law 797 = .ok (.invokevirtual 99, 3) := by decide +kernel
theorem dL_law_800 : decode cL_law 800 = .ok (.lcmp, 1) := by decide +kernel
theorem dL_law_801 : decode cL_law 801 = .ok (.ifCond .eq 491, 3) := by decide +kernel
theorem dL_law_804 : decode cL_law 804 = .ok (.iconst 0, 1) := by decide +kernel
theorem dL_law_805 : decode cL_law 805 = .ok (.ireturn, 1) := by decide +kernel
theorem dL_law_806 : decode cL_law 806 = .ok (.aload_n 1, 1) := by decide +kernel
theorem dL_law_807 : decode cL_law 807 = .ok (.aload_n 0, 1) := by decide +kernel
theorem dL_law_808 : decode cL_law 808 = .ok (.iload_n 3, 1) := by decide +kernel
theorem dL_law_809 : decode cL_law 809 = .ok (.iconst 1, 1) := by decide +kernel
theorem dL_law_810 : decode cL_law 810 = .ok (.iadd, 1) := by decide +kernel
theorem dL_law_811 : decode cL_law 811 = .ok (.iaload, 1) := by decide +kernel
theorem dL_law_812 : decode cL_law 812 = .ok (.invokevirtual 100, 3) := by decide +kernel
theorem dL_law_815 : decode cL_law 815 = .ok (.aload_n 2, 1) := by decide +kernel
theorem dL_law_816 : decode cL_law 816 = .ok (.aload_n 0, 1) := by decide +kernel
theorem dL_law_817 : decode cL_law 817 = .ok (.iload_n 3, 1) := by decide +kernel
theorem dL_law_818 : decode cL_law 818 = .ok (.iconst 1, 1) := by decide +kernel
theorem dL_law_819 : decode cL_law 819 = .ok (.iadd, 1) := by decide +kernel
theorem dL_law_820 : decode cL_law 820 = .ok (.iaload, 1) := by decide +kernel
theorem dL_law_821 : decode cL_law 821 = .ok (.invokevirtual 103, 3) := by decide +kernel
theorem dL_law_824 : decode cL_law 824 = .ok (.if_icmp .eq 468, 3) := by decide +kernel
theorem dL_law_827 : decode cL_law 827 = .ok (.iconst 0, 1) := by decide +kernel
theorem dL_law_828 : decode cL_law 828 = .ok (.ireturn, 1) := by decide +kernel
theorem dL_law_829 : decode cL_law 829 = .ok (.aload_n 1, 1) := by decide +kernel
theorem dL_law_830 : decode cL_law 830 = .ok (.aload_n 0, 1) := by decide +kernel
theorem dL_law_831 : decode cL_law 831 = .ok (.iload_n 3, 1) := by decide +kernel
theorem dL_law_832 : decode cL_law 832 = .ok (.iconst 1, 1) := by decide +kernel
theorem dL_law_833 : decode cL_law 833 = .ok (.iadd, 1) := by decide +kernel
theorem dL_law_834 : decode cL_law 834 = .ok (.iaload, 1) := by decide +kernel
theorem dL_law_835 : decode cL_law 835 = .ok (.invokevirtual 104, 3) := by decide +kernel
theorem dL_law_838 : decode cL_law 838 = .ok (.aload_n 2, 1) := by decide +kernel
theorem dL_law_839 : decode cL_law 839 = .ok (.aload_n 0, 1) := by decide +kernel
theorem dL_law_840 : decode cL_law 840 = .ok (.iload_n 3, 1) := by decide +kernel
theorem dL_law_841 : decode cL_law 841 = .ok (.iconst 1, 1) := by decide +kernel
theorem dL_law_842 : decode cL_law 842 = .ok (.iadd, 1) := by decide +kernel
theorem dL_law_843 : decode cL_law 843 = .ok (.iaload, 1) := by decide +kernel
theorem dL_law_844 : decode cL_law 844 = .ok (.invokevirtual 107, 3) := by decide +kernel
theorem dL_law_847 : decode cL_law 847 = .ok (.if_icmp .eq 445, 3) := by decide +kernel
theorem dL_law_850 : decode cL_law 850 = .ok (.iconst 0, 1) := by decide +kernel
theorem dL_law_851 : decode cL_law 851 = .ok (.ireturn, 1) := by decide +kernel
theorem dL_law_852 : decode cL_law 852 = .ok (.aload_n 1, 1) := by decide +kernel
theorem dL_law_853 : decode cL_law 853 = .ok (.aload_n 0, 1) := by decide +kernel
theorem dL_law_854 : decode cL_law 854 = .ok (.iload_n 3, 1) := by decide +kernel
theorem dL_law_855 : decode cL_law 855 = .ok (.iconst 1, 1) := by decide +kernel
theorem dL_law_856 : decode cL_law 856 = .ok (.iadd, 1) := by decide +kernel
theorem dL_law_857 : decode cL_law 857 = .ok (.iaload, 1) := by decide +kernel
theorem dL_law_858 : decode cL_law 858 = .ok (.aload_n 0, 1) := by decide +kernel
theorem dL_law_859 : decode cL_law 859 = .ok (.iload_n 3, 1) := by decide +kernel
theorem dL_law_860 : decode cL_law 860 = .ok (.iconst 2, 1) := by decide +kernel
theorem dL_law_861 : decode cL_law 861 = .ok (.iadd, 1) := by decide +kernel
theorem dL_law_862 : decode cL_law 862 = .ok (.iaload, 1) := by decide +kernel
theorem dL_law_863 : decode cL_law 863 = .ok (.invokevirtual 108, 3) := by decide +kernel
theorem dL_law_866 : decode cL_law 866 = .ok (.aload_n 2, 1) := by decide +kernel
theorem dL_law_867 : decode cL_law 867 = .ok (.aload_n 0, 1) := by decide +kernel
theorem dL_law_868 : decode cL_law 868 = .ok (.iload_n 3, 1) := by decide +kernel
theorem dL_law_869 : decode cL_law 869 = .ok (.iconst 1, 1) := by decide +kernel
theorem dL_law_870 : decode cL_law 870 = .ok (.iadd, 1) := by decide +kernel
theorem dL_law_871 : decode cL_law 871 = .ok (.iaload, 1) := by decide +kernel
theorem dL_law_872 : decode cL_law 872 = .ok (.aload_n 0, 1) := by decide +kernel
theorem dL_law_873 : decode cL_law 873 = .ok (.iload_n 3, 1) := by decide +kernel
theorem dL_law_874 : decode cL_law 874 = .ok (.iconst 2, 1) := by decide +kernel
theorem dL_law_875 : decode cL_law 875 = .ok (.iadd, 1) := by decide +kernel
theorem dL_law_876 : decode cL_law 876 = .ok (.iaload, 1) := by decide +kernel
theorem dL_law_877 : decode cL_law 877 = .ok (.invokevirtual 111, 3) := by decide +kernel
theorem dL_law_880 : decode cL_law 880 = .ok (.if_icmp .eq 412, 3) := by decide +kernel
theorem dL_law_883 : decode cL_law 883 = .ok (.iconst 0, 1) := by decide +kernel
theorem dL_law_884 : decode cL_law 884 = .ok (.ireturn, 1) := by decide +kernel
theorem dL_law_885 : decode cL_law 885 = .ok (.aload_n 1, 1) := by decide +kernel
theorem dL_law_886 : decode cL_law 886 = .ok (.invokevirtual 112, 3) := by decide +kernel
theorem dL_law_889 : decode cL_law 889 = .ok (.aload_n 2, 1) := by decide +kernel
theorem dL_law_890 : decode cL_law 890 = .ok (.invokevirtual 115, 3) := by decide +kernel
theorem dL_law_893 : decode cL_law 893 = .ok (.if_icmp .eq 399, 3) := by decide +kernel
theorem dL_law_896 : decode cL_law 896 = .ok (.iconst 0, 1) := by decide +kernel
theorem dL_law_897 : decode cL_law 897 = .ok (.ireturn, 1) := by decide +kernel
theorem dL_law_898 : decode cL_law 898 = .ok (.aload_n 1, 1) := by decide +kernel
theorem dL_law_899 : decode cL_law 899 = .ok (.aload_n 0, 1) := by decide +kernel
theorem dL_law_900 : decode cL_law 900 = .ok (.iload_n 3, 1) := by decide +kernel
theorem dL_law_901 : decode cL_law 901 = .ok (.iconst 1, 1) := by decide +kernel
theorem dL_law_902 : decode cL_law 902 = .ok (.iadd, 1) := by decide +kernel
theorem dL_law_903 : decode cL_law 903 = .ok (.iaload, 1) := by decide +kernel
theorem dL_law_904 : decode cL_law 904 = .ok (.aload_n 0, 1) := by decide +kernel
theorem dL_law_905 : decode cL_law 905 = .ok (.iload_n 3, 1) := by decide +kernel
theorem dL_law_906 : decode cL_law 906 = .ok (.iconst 2, 1) := by decide +kernel
theorem dL_law_907 : decode cL_law 907 = .ok (.iadd, 1) := by decide +kernel
theorem dL_law_908 : decode cL_law 908 = .ok (.iaload, 1) := by decide +kernel
theorem dL_law_909 : decode cL_law 909 = .ok (.invokevirtual 116, 3) := by decide +kernel
theorem dL_law_912 : decode cL_law 912 = .ok (.aload_n 2, 1) := by decide +kernel
theorem dL_law_913 : decode cL_law 913 = .ok (.aload_n 0, 1) := by decide +kernel
theorem dL_law_914 : decode cL_law 914 = .ok (.iload_n 3, 1) := by decide +kernel
theorem dL_law_915 : decode cL_law 915 = .ok (.iconst 1, 1) := by decide +kernel
theorem dL_law_916 : decode cL_law 916 = .ok (.iadd, 1) := by decide +kernel
theorem dL_law_917 : decode cL_law 917 = .ok (.iaload, 1) := by decide +kernel
theorem dL_law_918 : decode cL_law 918 = .ok (.aload_n 0, 1) := by decide +kernel
theorem dL_law_919 : decode cL_law 919 = .ok (.iload_n 3, 1) := by decide +kernel
theorem dL_law_920 : decode cL_law 920 = .ok (.iconst 2, 1) := by decide +kernel
theorem dL_law_921 : decode cL_law 921 = .ok (.iadd, 1) := by decide +kernel
theorem dL_law_922 : decode cL_law 922 = .ok (.iaload, 1) := by decide +kernel
theorem dL_law_923 : decode cL_law 923 = .ok (.invokevirtual 119, 3) := by decide +kernel
theorem dL_law_926 : decode cL_law 926 = .ok (.if_icmp .eq 366, 3) := by decide +kernel
theorem dL_law_929 : decode cL_law 929 = .ok (.iconst 0, 1) := by decide +kernel
theorem dL_law_930 : decode cL_law 930 = .ok (.ireturn, 1) := by decide +kernel
theorem dL_law_931 : decode cL_law 931 = .ok (.aload_n 1, 1) := by decide +kernel
theorem dL_law_932 : decode cL_law 932 = .ok (.invokevirtual 120, 3) := by decide +kernel
theorem dL_law_935 : decode cL_law 935 = .ok (.aload_n 2, 1) := by decide +kernel
theorem dL_law_936 : decode cL_law 936 = .ok (.invokevirtual 123, 3) := by decide +kernel
theorem dL_law_939 : decode cL_law 939 = .ok (.if_icmp .eq 353, 3) := by decide +kernel
theorem dL_law_942 : decode cL_law 942 = .ok (.iconst 0, 1) := by decide +kernel
theorem dL_law_943 : decode cL_law 943 = .ok (.ireturn, 1) := by decide +kernel
theorem dL_law_944 : decode cL_law 944 = .ok (.aload_n 1, 1) := by decide +kernel
theorem dL_law_945 : decode cL_law 945 = .ok (.invokevirtual 124, 3) := by decide +kernel
theorem dL_law_948 : decode cL_law 948 = .ok (.aload_n 2, 1) := by decide +kernel
theorem dL_law_949 : decode cL_law 949 = .ok (.invokevirtual 127, 3) := by decide +kernel
theorem dL_law_952 : decode cL_law 952 = .ok (.if_icmp .eq 340, 3) := by decide +kernel
theorem dL_law_955 : decode cL_law 955 = .ok (.iconst 0, 1) := by decide +kernel
theorem dL_law_956 : decode cL_law 956 = .ok (.ireturn, 1) := by decide +kernel
theorem dL_law_957 : decode cL_law 957 = .ok (.aload_n 1, 1) := by decide +kernel
theorem dL_law_958 : decode cL_law 958 = .ok (.aload_n 0, 1) := by decide +kernel
theorem dL_law_959 : decode cL_law 959 = .ok (.iload_n 3, 1) := by decide +kernel
theorem dL_law_960 : decode cL_law 960 = .ok (.iconst 1, 1) := by decide +kernel
theorem dL_law_961 : decode cL_law 961 = .ok (.iadd, 1) := by decide +kernel
theorem dL_law_962 : decode cL_law 962 = .ok (.iaload, 1) := by decide +kernel
theorem dL_law_963 : decode cL_law 963 = .ok (.aload_n 0, 1) := by decide +kernel
theorem dL_law_964 : decode cL_law 964 = .ok (.iload_n 3, 1) := by decide +kernel
theorem dL_law_965 : decode cL_law 965 = .ok (.iconst 2, 1) := by decide +kernel
theorem dL_law_966 : decode cL_law 966 = .ok (.iadd, 1) := by decide +kernel
theorem dL_law_967 : decode cL_law 967 = .ok (.iaload, 1) := by decide +kernel
theorem dL_law_968 : decode cL_law 968 = .ok (.aload_n 0, 1) := by decide +kernel
theorem dL_law_969 : decode cL_law 969 = .ok (.iload_n 3, 1) := by decide +kernel
theorem dL_law_970 : decode cL_law 970 = .ok (.iconst 3, 1) := by decide +kernel
theorem dL_law_971 : decode cL_law 971 = .ok (.iadd, 1) := by decide +kernel
theorem dL_law_972 : decode cL_law 972 = .ok (.iaload, 1) := by decide +kernel
theorem dL_law_973 : decode cL_law 973 = .ok (.invokevirtual 128, 3) := by decide +kernel
theorem dL_law_976 : decode cL_law 976 = .ok (.aload_n 2, 1) := by decide +kernel
theorem dL_law_977 : decode cL_law 977 = .ok (.aload_n 0, 1) := by decide +kernel
theorem dL_law_978 : decode cL_law 978 = .ok (.iload_n 3, 1) := by decide +kernel
theorem dL_law_979 : decode cL_law 979 = .ok (.iconst 1, 1) := by decide +kernel
theorem dL_law_980 : decode cL_law 980 = .ok (.iadd, 1) := by decide +kernel
theorem dL_law_981 : decode cL_law 981 = .ok (.iaload, 1) := by decide +kernel
theorem dL_law_982 : decode cL_law 982 = .ok (.aload_n 0, 1) := by decide +kernel
theorem dL_law_983 : decode cL_law 983 = .ok (.iload_n 3, 1) := by decide +kernel
theorem dL_law_984 : decode cL_law 984 = .ok (.iconst 2, 1) := by decide +kernel
theorem dL_law_985 : decode cL_law 985 = .ok (.iadd, 1) := by decide +kernel
theorem dL_law_986 : decode cL_law 986 = .ok (.iaload, 1) := by decide +kernel
theorem dL_law_987 : decode cL_law 987 = .ok (.aload_n 0, 1) := by decide +kernel
theorem dL_law_988 : decode cL_law 988 = .ok (.iload_n 3, 1) := by decide +kernel
theorem dL_law_989 : decode cL_law 989 = .ok (.iconst 3, 1) := by decide +kernel
theorem dL_law_990 : decode cL_law 990 = .ok (.iadd, 1) := by decide +kernel
theorem dL_law_991 : decode cL_law 991 = .ok (.iaload, 1) := by decide +kernel
theorem dL_law_992 : decode cL_law 992 = .ok (.invokevirtual 131, 3) := by decide +kernel
theorem dL_law_995 : decode cL_law 995 = .ok (.if_icmp .eq 297, 3) := by decide +kernel
theorem dL_law_998 : decode cL_law 998 = .ok (.iconst 0, 1) := by decide +kernel
theorem dL_law_999 : decode cL_law 999 = .ok (.ireturn, 1) := by decide +kernel
theorem dL_law_1000 : decode cL_law 1000 = .ok (.aload_n 1, 1) := by decide +kernel
theorem dL_law_1001 : decode cL_law 1001 = .ok (.aload_n 0, 1) := by decide +kernel
theorem dL_law_1002 : decode cL_law 1002 = .ok (.iload_n 3, 1) := by decide +kernel
theorem dL_law_1003 : decode cL_law 1003 = .ok (.iconst 1, 1) := by decide +kernel
theorem dL_law_1004 : decode cL_law 1004 = .ok (.iadd, 1) := by decide +kernel
theorem dL_law_1005 : decode cL_law 1005 = .ok (.iaload, 1) := by decide +kernel
theorem dL_law_1006 : decode cL_law 1006 = .ok (.invokevirtual 132, 3) := by decide +kernel
theorem dL_law_1009 : decode cL_law 1009 = .ok (.aload_n 2, 1) := by decide +kernel
theorem dL_law_1010 : decode cL_law 1010 = .ok (.aload_n 0, 1) := by decide +kernel
theorem dL_law_1011 : decode cL_law 1011 = .ok (.iload_n 3, 1) := by decide +kernel
theorem dL_law_1012 : decode cL_law 1012 = .ok (.iconst 1, 1) := by decide +kernel
theorem dL_law_1013 : decode cL_law 1013 = .ok (.iadd, 1) := by decide +kernel
theorem dL_law_1014 : decode cL_law 1014 = .ok (.iaload, 1) := by decide +kernel
theorem dL_law_1015 : decode cL_law 1015 = .ok (.invokevirtual 135, 3) := by decide +kernel
theorem dL_law_1018 : decode cL_law 1018 = .ok (.if_icmp .eq 274, 3) := by decide +kernel
theorem dL_law_1021 : decode cL_law 1021 = .ok (.iconst 0, 1) := by decide +kernel
theorem dL_law_1022 : decode cL_law 1022 = .ok (.ireturn, 1) := by decide +kernel
theorem dL_law_1023 : decode cL_law 1023 = .ok (.aload_n 1, 1) := by decide +kernel
theorem dL_law_1024 : decode cL_law 1024 = .ok (.aload_n 0, 1) := by decide +kernel
theorem dL_law_1025 : decode cL_law 1025 = .ok (.iload_n 3, 1) := by decide +kernel
theorem dL_law_1026 : decode cL_law 1026 = .ok (.iconst 1, 1) := by decide +kernel
theorem dL_law_1027 : decode cL_law 1027 = .ok (.iadd, 1) := by decide +kernel
theorem dL_law_1028 : decode cL_law 1028 = .ok (.iaload, 1) := by decide +kernel
theorem dL_law_1029 : decode cL_law 1029 = .ok (.aload_n 0, 1) := by decide +kernel
theorem dL_law_1030 : decode cL_law 1030 = .ok (.iload_n 3, 1) := by decide +kernel
theorem dL_law_1031 : decode cL_law 1031 = .ok (.iconst 2, 1) := by decide +kernel
theorem dL_law_1032 : decode cL_law 1032 = .ok (.iadd, 1) := by decide +kernel
theorem dL_law_1033 : decode cL_law 1033 = .ok (.iaload, 1) := by decide +kernel
theorem dL_law_1034 : decode cL_law 1034 = .ok (.invokevirtual 136, 3) := by decide +kernel
theorem dL_law_1037 : decode cL_law 1037 = .ok (.aload_n 2, 1) := by decide +kernel
theorem dL_law_1038 : decode cL_law 1038 = .ok (.aload_n 0, 1) := by decide +kernel
theorem dL_law_1039 : decode cL_law 1039 = .ok (.iload_n 3, 1) := by decide +kernel
theorem dL_law_1040 : decode cL_law 1040 = .ok (.iconst 1, 1) := by decide +kernel
theorem dL_law_1041 : decode cL_law 1041 = .ok (.iadd, 1) := by decide +kernel
theorem dL_law_1042 : decode cL_law 1042 = .ok (.iaload, 1) := by decide +kernel
theorem dL_law_1043 : decode cL_law 1043 = .ok (.aload_n 0, 1) := by decide +kernel
theorem dL_law_1044 : decode cL_law 1044 = .ok (.iload_n 3, 1) := by decide +kernel
theorem dL_law_1045 : decode cL_law 1045 = .ok (.iconst 2, 1) := by decide +kernel
theorem dL_law_1046 : decode cL_law 1046 = .ok (.iadd, 1) := by decide +kernel
theorem dL_law_1047 : decode cL_law 1047 = .ok (.iaload, 1) := by decide +kernel
theorem dL_law_1048 : decode cL_law 1048 = .ok (.invokevirtual 139, 3) := by decide +kernel
theorem dL_law_1051 : decode cL_law 1051 = .ok (.if_icmp .eq 241, 3) := by decide +kernel
theorem dL_law_1054 : decode cL_law 1054 = .ok (.iconst 0, 1) := by decide +kernel
theorem dL_law_1055 : decode cL_law 1055 = .ok (.ireturn, 1) := by decide +kernel
theorem dL_law_1056 : decode cL_law 1056 = .ok (.aload_n 1, 1) := by decide +kernel
theorem dL_law_1057 : decode cL_law 1057 = .ok (.aload_n 0, 1) := by decide +kernel
theorem dL_law_1058 : decode cL_law 1058 = .ok (.iload_n 3, 1) := by decide +kernel
theorem dL_law_1059 : decode cL_law 1059 = .ok (.iconst 1, 1) := by decide +kernel
theorem dL_law_1060 : decode cL_law 1060 = .ok (.iadd, 1) := by decide +kernel
theorem dL_law_1061 : decode cL_law 1061 = .ok (.iaload, 1) := by decide +kernel
theorem dL_law_1062 : decode cL_law 1062 = .ok (.invokevirtual 140, 3) := by decide +kernel
theorem dL_law_1065 : decode cL_law 1065 = .ok (.aload_n 2, 1) := by decide +kernel
theorem dL_law_1066 : decode cL_law 1066 = .ok (.aload_n 0, 1) := by decide +kernel
theorem dL_law_1067 : decode cL_law 1067 = .ok (.iload_n 3, 1) := by decide +kernel
theorem dL_law_1068 : decode cL_law 1068 = .ok (.iconst 1, 1) := by decide +kernel
theorem dL_law_1069 : decode cL_law 1069 = .ok (.iadd, 1) := by decide +kernel
theorem dL_law_1070 : decode cL_law 1070 = .ok (.iaload, 1) := by decide +kernel
theorem dL_law_1071 : decode cL_law 1071 = .ok (.invokevirtual 143, 3) := by decide +kernel
theorem dL_law_1074 : decode cL_law 1074 = .ok (.if_icmp .eq 218, 3) := by decide +kernel
theorem dL_law_1077 : decode cL_law 1077 = .ok (.iconst 0, 1) := by decide +kernel
theorem dL_law_1078 : decode cL_law 1078 = .ok (.ireturn, 1) := by decide +kernel
theorem dL_law_1079 : decode cL_law 1079 = .ok (.aload_n 1, 1) := by decide +kernel
theorem dL_law_1080 : decode cL_law 1080 = .ok (.aload_n 0, 1) := by decide +kernel
theorem dL_law_1081 : decode cL_law 1081 = .ok (.iload_n 3, 1) := by decide +kernel
theorem dL_law_1082 : decode cL_law 1082 = .ok (.iconst 1, 1) := by decide +kernel
theorem dL_law_1083 : decode cL_law 1083 = .ok (.iadd, 1) := by decide +kernel
theorem dL_law_1084 : decode cL_law 1084 = .ok (.iaload, 1) := by decide +kernel
theorem dL_law_1085 : decode cL_law 1085 = .ok (.aload_n 0, 1) := by decide +kernel
theorem dL_law_1086 : decode cL_law 1086 = .ok (.iload_n 3, 1) := by decide +kernel
theorem dL_law_1087 : decode cL_law 1087 = .ok (.iconst 2, 1) := by decide +kernel
theorem dL_law_1088 : decode cL_law 1088 = .ok (.iadd, 1) := by decide +kernel
theorem dL_law_1089 : decode cL_law 1089 = .ok (.iaload, 1) := by decide +kernel
theorem dL_law_1090 : decode cL_law 1090 = .ok (.aload_n 0, 1) := by decide +kernel
theorem dL_law_1091 : decode cL_law 1091 = .ok (.iload_n 3, 1) := by decide +kernel
theorem dL_law_1092 : decode cL_law 1092 = .ok (.iconst 3, 1) := by decide +kernel
theorem dL_law_1093 : decode cL_law 1093 = .ok (.iadd, 1) := by decide +kernel
theorem dL_law_1094 : decode cL_law 1094 = .ok (.iaload, 1) := by decide +kernel
theorem dL_law_1095 : decode cL_law 1095 = .ok (.invokevirtual 144, 3) := by decide +kernel
theorem dL_law_1098 : decode cL_law 1098 = .ok (.aload_n 2, 1) := by decide +kernel
theorem dL_law_1099 : decode cL_law 1099 = .ok (.aload_n 0, 1) := by decide +kernel
theorem dL_law_1100 : decode cL_law 1100 = .ok (.iload_n 3, 1) := by decide +kernel
theorem dL_law_1101 : decode cL_law 1101 = .ok (.iconst 1, 1) := by decide +kernel
theorem dL_law_1102 : decode cL_law 1102 = .ok (.iadd, 1) := by decide +kernel
theorem dL_law_1103 : decode cL_law 1103 = .ok (.iaload, 1) := by decide +kernel
theorem dL_law_1104 : decode cL_law 1104 = .ok (.aload_n 0, 1) := by decide +kernel
theorem dL_law_1105 : decode cL_law 1105 = .ok (.iload_n 3, 1) := by decide +kernel
theorem dL_law_1106 : decode cL_law 1106 = .ok (.iconst 2, 1) := by decide +kernel
theorem dL_law_1107 : decode cL_law 1107 = .ok (.iadd, 1) := by decide +kernel
theorem dL_law_1108 : decode cL_law 1108 = .ok (.iaload, 1) := by decide +kernel
theorem dL_law_1109 : decode cL_law 1109 = .ok (.aload_n 0, 1) := by decide +kernel
theorem dL_law_1110 : decode cL_law 1110 = .ok (.iload_n 3, 1) := by decide +kernel
theorem dL_law_1111 : decode cL_law 1111 = .ok (.iconst 3, 1) := by decide +kernel
theorem dL_law_1112 : decode cL_law 1112 = .ok (.iadd, 1) := by decide +kernel
theorem dL_law_1113 : decode cL_law 1113 = .ok (.iaload, 1) := by decide +kernel
theorem dL_law_1114 : decode cL_law 1114 = .ok (.invokevirtual 147, 3) := by decide +kernel
theorem dL_law_1117 : decode cL_law 1117 = .ok (.if_icmp .eq 175, 3) := by decide +kernel
theorem dL_law_1120 : decode cL_law 1120 = .ok (.iconst 0, 1) := by decide +kernel
theorem dL_law_1121 : decode cL_law 1121 = .ok (.ireturn, 1) := by decide +kernel
theorem dL_law_1122 : decode cL_law 1122 = .ok (.aload_n 1, 1) := by decide +kernel
theorem dL_law_1123 : decode cL_law 1123 = .ok (.aload_n 0, 1) := by decide +kernel
theorem dL_law_1124 : decode cL_law 1124 = .ok (.iload_n 3, 1) := by decide +kernel
theorem dL_law_1125 : decode cL_law 1125 = .ok (.iconst 1, 1) := by decide +kernel
theorem dL_law_1126 : decode cL_law 1126 = .ok (.iadd, 1) := by decide +kernel
theorem dL_law_1127 : decode cL_law 1127 = .ok (.iaload, 1) := by decide +kernel
theorem dL_law_1128 : decode cL_law 1128 = .ok (.aload_n 0, 1) := by decide +kernel
theorem dL_law_1129 : decode cL_law 1129 = .ok (.iload_n 3, 1) := by decide +kernel
theorem dL_law_1130 : decode cL_law 1130 = .ok (.iconst 2, 1) := by decide +kernel
theorem dL_law_1131 : decode cL_law 1131 = .ok (.iadd, 1) := by decide +kernel
theorem dL_law_1132 : decode cL_law 1132 = .ok (.iaload, 1) := by decide +kernel
theorem dL_law_1133 : decode cL_law 1133 = .ok (.aload_n 0, 1) := by decide +kernel
theorem dL_law_1134 : decode cL_law 1134 = .ok (.iload_n 3, 1) := by decide +kernel
theorem dL_law_1135 : decode cL_law 1135 = .ok (.iconst 3, 1) := by decide +kernel
theorem dL_law_1136 : decode cL_law 1136 = .ok (.iadd, 1) := by decide +kernel
theorem dL_law_1137 : decode cL_law 1137 = .ok (.iaload, 1) := by decide +kernel
theorem dL_law_1138 : decode cL_law 1138 = .ok (.i2l, 1) := by decide +kernel
theorem dL_law_1139 : decode cL_law 1139 = .ok (.bipush 32, 2) := by decide +kernel
theorem dL_law_1141 : decode cL_law 1141 = .ok (.lshl, 1) := by decide +kernel
theorem dL_law_1142 : decode cL_law 1142 = .ok (.aload_n 0, 1) := by decide +kernel
theorem dL_law_1143 : decode cL_law 1143 = .ok (.iload_n 3, 1) := by decide +kernel
theorem dL_law_1144 : decode cL_law 1144 = .ok (.iconst 4, 1) := by decide +kernel
theorem dL_law_1145 : decode cL_law 1145 = .ok (.iadd, 1) := by decide +kernel
theorem dL_law_1146 : decode cL_law 1146 = .ok (.iaload, 1) := by decide +kernel
theorem dL_law_1147 : decode cL_law 1147 = .ok (.i2l, 1) := by decide +kernel
theorem dL_law_1148 : decode cL_law 1148 = .ok (.ldc2_w 148, 3) := by decide +kernel
theorem dL_law_1151 : decode cL_law 1151 = .ok (.land, 1) := by decide +kernel
theorem dL_law_1152 : decode cL_law 1152 = .ok (.lor, 1) := by decide +kernel
theorem dL_law_1153 : decode cL_law 1153 = .ok (.invokevirtual 150, 3) := by decide +kernel
theorem dL_law_1156 : decode cL_law 1156 = .ok (.aload_n 2, 1) := by decide +kernel
theorem dL_law_1157 : decode cL_law 1157 = .ok (.aload_n 0, 1) := by decide +kernel
theorem dL_law_1158 : decode cL_law 1158 = .ok (.iload_n 3, 1) := by decide +kernel
theorem dL_law_1159 : decode cL_law 1159 = .ok (.iconst 1, 1) := by decide +kernel
theorem dL_law_1160 : decode cL_law 1160 = .ok (.iadd, 1) := by decide +kernel
theorem dL_law_1161 : decode cL_law 1161 = .ok (.iaload, 1) := by decide +kernel
theorem dL_law_1162 : decode cL_law 1162 = .ok (.aload_n 0, 1) := by decide +kernel
theorem dL_law_1163 : decode cL_law 1163 = .ok (.iload_n 3, 1) := by decide +kernel
theorem dL_law_1164 : decode cL_law 1164 = .ok (.iconst 2, 1) := by decide +kernel
theorem dL_law_1165 : decode cL_law 1165 = .ok (.iadd, 1) := by decide +kernel
theorem dL_law_1166 : decode cL_law 1166 = .ok (.iaload, 1) := by decide +kernel
theorem dL_law_1167 : decode cL_law 1167 = .ok (.aload_n 0, 1) := by decide +kernel
theorem dL_law_1168 : decode cL_law 1168 = .ok (.iload_n 3, 1) := by decide +kernel
theorem dL_law_1169 : decode cL_law 1169 = .ok (.iconst 3, 1) := by decide +kernel
theorem dL_law_1170 : decode cL_law 1170 = .ok (.iadd, 1) := by decide +kernel
theorem dL_law_1171 : decode cL_law 1171 = .ok (.iaload, 1) := by decide +kernel
theorem dL_law_1172 : decode cL_law 1172 = .ok (.i2l, 1) := by decide +kernel
theorem dL_law_1173 : decode cL_law 1173 = .ok (.bipush 32, 2) := by decide +kernel
theorem dL_law_1175 : decode cL_law 1175 = .ok (.lshl, 1) := by decide +kernel
theorem dL_law_1176 : decode cL_law 1176 = .ok (.aload_n 0, 1) := by decide +kernel
theorem dL_law_1177 : decode cL_law 1177 = .ok (.iload_n 3, 1) := by decide +kernel
theorem dL_law_1178 : decode cL_law 1178 = .ok (.iconst 4, 1) := by decide +kernel
theorem dL_law_1179 : decode cL_law 1179 = .ok (.iadd, 1) := by decide +kernel
theorem dL_law_1180 : decode cL_law 1180 = .ok (.iaload, 1) := by decide +kernel
theorem dL_law_1181 : decode cL_law 1181 = .ok (.i2l, 1) := by decide +kernel
theorem dL_law_1182 : decode cL_law 1182 = .ok (.ldc2_w 148, 3) := by decide +kernel
theorem dL_law_1185 : decode cL_law 1185 = .ok (.land, 1) := by decide +kernel
theorem dL_law_1186 : decode cL_law 1186 = .ok (.lor, 1) := by decide +kernel
theorem dL_law_1187 : decode cL_law 1187 = .ok (.invokevirtual 154, 3) := by decide +kernel
theorem dL_law_1190 : decode cL_law 1190 = .ok (.if_icmp .eq 102, 3) := by decide +kernel
theorem dL_law_1193 : decode cL_law 1193 = .ok (.iconst 0, 1) := by decide +kernel
theorem dL_law_1194 : decode cL_law 1194 = .ok (.ireturn, 1) := by decide +kernel
theorem dL_law_1195 : decode cL_law 1195 = .ok (.aload_n 1, 1) := by decide +kernel
theorem dL_law_1196 : decode cL_law 1196 = .ok (.aload_n 0, 1) := by decide +kernel
theorem dL_law_1197 : decode cL_law 1197 = .ok (.iload_n 3, 1) := by decide +kernel
theorem dL_law_1198 : decode cL_law 1198 = .ok (.iconst 1, 1) := by decide +kernel
theorem dL_law_1199 : decode cL_law 1199 = .ok (.iadd, 1) := by decide +kernel
theorem dL_law_1200 : decode cL_law 1200 = .ok (.iaload, 1) := by decide +kernel
theorem dL_law_1201 : decode cL_law 1201 = .ok (.aload_n 0, 1) := by decide +kernel
theorem dL_law_1202 : decode cL_law 1202 = .ok (.iload_n 3, 1) := by decide +kernel
theorem dL_law_1203 : decode cL_law 1203 = .ok (.iconst 2, 1) := by decide +kernel
theorem dL_law_1204 : decode cL_law 1204 = .ok (.iadd, 1) := by decide +kernel
theorem dL_law_1205 : decode cL_law 1205 = .ok (.iaload, 1) := by decide +kernel
theorem dL_law_1206 : decode cL_law 1206 = .ok (.invokevirtual 155, 3) := by decide +kernel
theorem dL_law_1209 : decode cL_law 1209 = .ok (.aload_n 2, 1) := by decide +kernel
theorem dL_law_1210 : decode cL_law 1210 = .ok (.aload_n 0, 1) := by decide +kernel
theorem dL_law_1211 : decode cL_law 1211 = .ok (.iload_n 3, 1) := by decide +kernel
theorem dL_law_1212 : decode cL_law 1212 = .ok (.iconst 1, 1) := by decide +kernel
theorem dL_law_1213 : decode cL_law 1213 = .ok (.iadd, 1) := by decide +kernel
theorem dL_law_1214 : decode cL_law 1214 = .ok (.iaload, 1) := by decide +kernel
theorem dL_law_1215 : decode cL_law 1215 = .ok (.aload_n 0, 1) := by decide +kernel
theorem dL_law_1216 : decode cL_law 1216 = .ok (.iload_n 3, 1) := by decide +kernel
theorem dL_law_1217 : decode cL_law 1217 = .ok (.iconst 2, 1) := by decide +kernel
theorem dL_law_1218 : decode cL_law 1218 = .ok (.iadd, 1) := by decide +kernel
theorem dL_law_1219 : decode cL_law 1219 = .ok (.iaload, 1) := by decide +kernel
theorem dL_law_1220 : decode cL_law 1220 = .ok (.invokevirtual 158, 3) := by decide +kernel
theorem dL_law_1223 : decode cL_law 1223 = .ok (.lcmp, 1) := by decide +kernel
theorem dL_law_1224 : decode cL_law 1224 = .ok (.ifCond .eq 68, 3) := by decide +kernel
theorem dL_law_1227 : decode cL_law 1227 = .ok (.iconst 0, 1) := by decide +kernel
theorem dL_law_1228 : decode cL_law 1228 = .ok (.ireturn, 1) := by decide +kernel
theorem dL_law_1229 : decode cL_law 1229 = .ok (.aload_n 1, 1) := by decide +kernel
theorem dL_law_1230 : decode cL_law 1230 = .ok (.aload_n 0, 1) := by decide +kernel
theorem dL_law_1231 : decode cL_law 1231 = .ok (.iload_n 3, 1) := by decide +kernel
theorem dL_law_1232 : decode cL_law 1232 = .ok (.iconst 1, 1) := by decide +kernel
theorem dL_law_1233 : decode cL_law 1233 = .ok (.iadd, 1) := by decide +kernel
theorem dL_law_1234 : decode cL_law 1234 = .ok (.iaload, 1) := by decide +kernel
theorem dL_law_1235 : decode cL_law 1235 = .ok (.aload_n 0, 1) := by decide +kernel
theorem dL_law_1236 : decode cL_law 1236 = .ok (.iload_n 3, 1) := by decide +kernel
theorem dL_law_1237 : decode cL_law 1237 = .ok (.iconst 2, 1) := by decide +kernel
theorem dL_law_1238 : decode cL_law 1238 = .ok (.iadd, 1) := by decide +kernel
theorem dL_law_1239 : decode cL_law 1239 = .ok (.iaload, 1) := by decide +kernel
theorem dL_law_1240 : decode cL_law 1240 = .ok (.aload_n 0, 1) := by decide +kernel
theorem dL_law_1241 : decode cL_law 1241 = .ok (.iload_n 3, 1) := by decide +kernel
theorem dL_law_1242 : decode cL_law 1242 = .ok (.iconst 3, 1) := by decide +kernel
theorem dL_law_1243 : decode cL_law 1243 = .ok (.iadd, 1) := by decide +kernel
theorem dL_law_1244 : decode cL_law 1244 = .ok (.iaload, 1) := by decide +kernel
theorem dL_law_1245 : decode cL_law 1245 = .ok (.aload_n 0, 1) := by decide +kernel
theorem dL_law_1246 : decode cL_law 1246 = .ok (.iload_n 3, 1) := by decide +kernel
theorem dL_law_1247 : decode cL_law 1247 = .ok (.iconst 4, 1) := by decide +kernel
theorem dL_law_1248 : decode cL_law 1248 = .ok (.iadd, 1) := by decide +kernel
theorem dL_law_1249 : decode cL_law 1249 = .ok (.iaload, 1) := by decide +kernel
theorem dL_law_1250 : decode cL_law 1250 = .ok (.aload_n 0, 1) := by decide +kernel
theorem dL_law_1251 : decode cL_law 1251 = .ok (.iload_n 3, 1) := by decide +kernel
theorem dL_law_1252 : decode cL_law 1252 = .ok (.iconst 5, 1) := by decide +kernel
theorem dL_law_1253 : decode cL_law 1253 = .ok (.iadd, 1) := by decide +kernel
theorem dL_law_1254 : decode cL_law 1254 = .ok (.iaload, 1) := by decide +kernel
theorem dL_law_1255 : decode cL_law 1255 = .ok (.invokevirtual 159, 3) := by decide +kernel
theorem dL_law_1258 : decode cL_law 1258 = .ok (.aload_n 2, 1) := by decide +kernel
theorem dL_law_1259 : decode cL_law 1259 = .ok (.aload_n 0, 1) := by decide +kernel
theorem dL_law_1260 : decode cL_law 1260 = .ok (.iload_n 3, 1) := by decide +kernel
theorem dL_law_1261 : decode cL_law 1261 = .ok (.iconst 1, 1) := by decide +kernel
theorem dL_law_1262 : decode cL_law 1262 = .ok (.iadd, 1) := by decide +kernel
theorem dL_law_1263 : decode cL_law 1263 = .ok (.iaload, 1) := by decide +kernel
theorem dL_law_1264 : decode cL_law 1264 = .ok (.aload_n 0, 1) := by decide +kernel
theorem dL_law_1265 : decode cL_law 1265 = .ok (.iload_n 3, 1) := by decide +kernel
theorem dL_law_1266 : decode cL_law 1266 = .ok (.iconst 2, 1) := by decide +kernel
theorem dL_law_1267 : decode cL_law 1267 = .ok (.iadd, 1) := by decide +kernel
theorem dL_law_1268 : decode cL_law 1268 = .ok (.iaload, 1) := by decide +kernel
theorem dL_law_1269 : decode cL_law 1269 = .ok (.aload_n 0, 1) := by decide +kernel
theorem dL_law_1270 : decode cL_law 1270 = .ok (.iload_n 3, 1) := by decide +kernel
theorem dL_law_1271 : decode cL_law 1271 = .ok (.iconst 3, 1) := by decide +kernel
theorem dL_law_1272 : decode cL_law 1272 = .ok (.iadd, 1) := by decide +kernel
theorem dL_law_1273 : decode cL_law 1273 = .ok (.iaload, 1) := by decide +kernel
theorem dL_law_1274 : decode cL_law 1274 = .ok (.aload_n 0, 1) := by decide +kernel
theorem dL_law_1275 : decode cL_law 1275 = .ok (.iload_n 3, 1) := by decide +kernel
theorem dL_law_1276 : decode cL_law 1276 = .ok (.iconst 4, 1) := by decide +kernel
theorem dL_law_1277 : decode cL_law 1277 = .ok (.iadd, 1) := by decide +kernel
theorem dL_law_1278 : decode cL_law 1278 = .ok (.iaload, 1) := by decide +kernel
theorem dL_law_1279 : decode cL_law 1279 = .ok (.aload_n 0, 1) := by decide +kernel
theorem dL_law_1280 : decode cL_law 1280 = .ok (.iload_n 3, 1) := by decide +kernel
theorem dL_law_1281 : decode cL_law 1281 = .ok (.iconst 5, 1) := by decide +kernel
theorem dL_law_1282 : decode cL_law 1282 = .ok (.iadd, 1) := by decide +kernel
theorem dL_law_1283 : decode cL_law 1283 = .ok (.iaload, 1) := by decide +kernel
theorem dL_law_1284 : decode cL_law 1284 = .ok (.invokevirtual 163, 3) := by decide +kernel
theorem dL_law_1287 : decode cL_law 1287 = .ok (.if_icmp .eq 5, 3) := by decide +kernel
theorem dL_law_1290 : decode cL_law 1290 = .ok (.iconst 0, 1) := by decide +kernel
theorem dL_law_1291 : decode cL_law 1291 = .ok (.ireturn, 1) := by decide +kernel
theorem dL_law_1292 : decode cL_law 1292 = .ok (.iinc 3 6, 3) := by decide +kernel
theorem dL_law_1295 : decode cL_law 1295 = .ok (.goto (-1277), 3) := by decide +kernel
theorem dL_law_1298 : decode cL_law 1298 = .ok (.iconst 1, 1) := by decide +kernel
theorem dL_law_1299 : decode cL_law 1299 = .ok (.ireturn, 1) := by decide +kernel
end
