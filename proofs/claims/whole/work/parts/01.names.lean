-- ===== PART A: goes FIRST, ahead of the names: the tables' words, and 'selects' of the private methods out of them =====
/-- a private method of a class that the tables say can be made, by its rows of tables_1 -/
def lw_okq (q : MethodName × Nat) : Prop := (q.1.cls ≠ "java/lang/invoke/MethodHandle" ∧ q.1.cls ≠ "java/lang/invoke/VarHandle") ∧ Cond.instantiable q.1.cls q.2 ∈ tables_1 ∧ Cond.privateMethod q.1 ∈ tables_1 ∧ Cond.instanceMethod q.1 ∈ tables_1
theorem lw_p0 : lw_okq (⟨"ClocksTold$Shop", "enter", "(III)I"⟩, 11) := ⟨⟨by decide +kernel, by decide +kernel⟩, List.mem_of_getElem? (i := 29) (by decide +kernel), List.mem_of_getElem? (i := 318) (by decide +kernel), List.mem_of_getElem? (i := 319) (by decide +kernel)⟩
theorem lw_p1 : lw_okq (⟨"ClocksTold$Shop", "learn", "(I)V"⟩, 11) := ⟨⟨by decide +kernel, by decide +kernel⟩, List.mem_of_getElem? (i := 29) (by decide +kernel), List.mem_of_getElem? (i := 322) (by decide +kernel), List.mem_of_getElem? (i := 323) (by decide +kernel)⟩
theorem lw_p2 : lw_okq (⟨"ClocksTold$Bench", "newsBy", "([I)I"⟩, 6) := ⟨⟨by decide +kernel, by decide +kernel⟩, List.mem_of_getElem? (i := 235) (by decide +kernel), List.mem_of_getElem? (i := 326) (by decide +kernel), List.mem_of_getElem? (i := 327) (by decide +kernel)⟩
theorem lw_p3 : lw_okq (⟨"ClocksTold$Bench", "isTrue", "(II[I)Z"⟩, 6) := ⟨⟨by decide +kernel, by decide +kernel⟩, List.mem_of_getElem? (i := 235) (by decide +kernel), List.mem_of_getElem? (i := 330) (by decide +kernel), List.mem_of_getElem? (i := 331) (by decide +kernel)⟩
theorem lw_p4 : lw_okq (⟨"ClocksTold", "isClock", "(I)Z"⟩, 10) := ⟨⟨by decide +kernel, by decide +kernel⟩, List.mem_of_getElem? (i := 21) (by decide +kernel), List.mem_of_getElem? (i := 344) (by decide +kernel), List.mem_of_getElem? (i := 345) (by decide +kernel)⟩
theorem lw_p5 : lw_okq (⟨"ClocksTold$Shop", "leftOf", "(LClocksTold$Course;I)I"⟩, 11) := ⟨⟨by decide +kernel, by decide +kernel⟩, List.mem_of_getElem? (i := 29) (by decide +kernel), List.mem_of_getElem? (i := 348) (by decide +kernel), List.mem_of_getElem? (i := 349) (by decide +kernel)⟩
theorem lw_p6 : lw_okq (⟨"ClocksTold$Shop", "newsAhead", "(II)I"⟩, 11) := ⟨⟨by decide +kernel, by decide +kernel⟩, List.mem_of_getElem? (i := 29) (by decide +kernel), List.mem_of_getElem? (i := 352) (by decide +kernel), List.mem_of_getElem? (i := 353) (by decide +kernel)⟩
theorem lw_p7 : lw_okq (⟨"ClocksTold$Shop", "holds", "(II)I"⟩, 11) := ⟨⟨by decide +kernel, by decide +kernel⟩, List.mem_of_getElem? (i := 29) (by decide +kernel), List.mem_of_getElem? (i := 356) (by decide +kernel), List.mem_of_getElem? (i := 357) (by decide +kernel)⟩
theorem lw_p8 : lw_okq (⟨"ClocksTold$Shop", "pace", "()I"⟩, 11) := ⟨⟨by decide +kernel, by decide +kernel⟩, List.mem_of_getElem? (i := 29) (by decide +kernel), List.mem_of_getElem? (i := 360) (by decide +kernel), List.mem_of_getElem? (i := 361) (by decide +kernel)⟩
theorem lw_p9 : lw_okq (⟨"ClocksTold$Asker", "minded", "(I)I"⟩, 4) := ⟨⟨by decide +kernel, by decide +kernel⟩, List.mem_of_getElem? (i := 160) (by decide +kernel), List.mem_of_getElem? (i := 365) (by decide +kernel), List.mem_of_getElem? (i := 366) (by decide +kernel)⟩
theorem lw_p10 : lw_okq (⟨"ClocksTold$Shop", "minds", "(II)Z"⟩, 11) := ⟨⟨by decide +kernel, by decide +kernel⟩, List.mem_of_getElem? (i := 29) (by decide +kernel), List.mem_of_getElem? (i := 369) (by decide +kernel), List.mem_of_getElem? (i := 370) (by decide +kernel)⟩
theorem lw_p11 : lw_okq (⟨"ClocksTold$Shop", "newsOf", "(II)I"⟩, 11) := ⟨⟨by decide +kernel, by decide +kernel⟩, List.mem_of_getElem? (i := 29) (by decide +kernel), List.mem_of_getElem? (i := 373) (by decide +kernel), List.mem_of_getElem? (i := 374) (by decide +kernel)⟩
theorem lw_p12 : lw_okq (⟨"ClocksTold$Asker", "whole", "(I)I"⟩, 4) := ⟨⟨by decide +kernel, by decide +kernel⟩, List.mem_of_getElem? (i := 160) (by decide +kernel), List.mem_of_getElem? (i := 377) (by decide +kernel), List.mem_of_getElem? (i := 378) (by decide +kernel)⟩
theorem lw_p13 : lw_okq (⟨"ClocksTold$Asker", "begin", "()V"⟩, 4) := ⟨⟨by decide +kernel, by decide +kernel⟩, List.mem_of_getElem? (i := 160) (by decide +kernel), List.mem_of_getElem? (i := 381) (by decide +kernel), List.mem_of_getElem? (i := 382) (by decide +kernel)⟩
theorem lw_p14 : lw_okq (⟨"ClocksTold$Course", "copyFrom", "(LClocksTold$Course;)V"⟩, 3) := ⟨⟨by decide +kernel, by decide +kernel⟩, List.mem_of_getElem? (i := 35) (by decide +kernel), List.mem_of_getElem? (i := 385) (by decide +kernel), List.mem_of_getElem? (i := 386) (by decide +kernel)⟩
theorem lw_p15 : lw_okq (⟨"ClocksTold$Course", "isUp", "(I)Z"⟩, 3) := ⟨⟨by decide +kernel, by decide +kernel⟩, List.mem_of_getElem? (i := 35) (by decide +kernel), List.mem_of_getElem? (i := 389) (by decide +kernel), List.mem_of_getElem? (i := 390) (by decide +kernel)⟩
def lw_privs_1 : List (MethodName × Nat) := [(⟨"ClocksTold$Shop", "enter", "(III)I"⟩, 11), (⟨"ClocksTold$Shop", "learn", "(I)V"⟩, 11), (⟨"ClocksTold$Bench", "newsBy", "([I)I"⟩, 6), (⟨"ClocksTold$Bench", "isTrue", "(II[I)Z"⟩, 6), (⟨"ClocksTold", "isClock", "(I)Z"⟩, 10), (⟨"ClocksTold$Shop", "leftOf", "(LClocksTold$Course;I)I"⟩, 11), (⟨"ClocksTold$Shop", "newsAhead", "(II)I"⟩, 11), (⟨"ClocksTold$Shop", "holds", "(II)I"⟩, 11), (⟨"ClocksTold$Shop", "pace", "()I"⟩, 11), (⟨"ClocksTold$Asker", "minded", "(I)I"⟩, 4), (⟨"ClocksTold$Shop", "minds", "(II)Z"⟩, 11), (⟨"ClocksTold$Shop", "newsOf", "(II)I"⟩, 11), (⟨"ClocksTold$Asker", "whole", "(I)I"⟩, 4), (⟨"ClocksTold$Asker", "begin", "()V"⟩, 4), (⟨"ClocksTold$Course", "copyFrom", "(LClocksTold$Course;)V"⟩, 3), (⟨"ClocksTold$Course", "isUp", "(I)Z"⟩, 3)]
theorem lw_r1 : ∀ q ∈ lw_privs_1, lw_okq q := List.forall_mem_cons.mpr ⟨lw_p0, List.forall_mem_cons.mpr ⟨lw_p1, List.forall_mem_cons.mpr ⟨lw_p2, List.forall_mem_cons.mpr ⟨lw_p3, List.forall_mem_cons.mpr ⟨lw_p4, List.forall_mem_cons.mpr ⟨lw_p5, List.forall_mem_cons.mpr ⟨lw_p6, List.forall_mem_cons.mpr ⟨lw_p7, List.forall_mem_cons.mpr ⟨lw_p8, List.forall_mem_cons.mpr ⟨lw_p9, List.forall_mem_cons.mpr ⟨lw_p10, List.forall_mem_cons.mpr ⟨lw_p11, List.forall_mem_cons.mpr ⟨lw_p12, List.forall_mem_cons.mpr ⟨lw_p13, List.forall_mem_cons.mpr ⟨lw_p14, List.forall_mem_cons.mpr ⟨lw_p15, fun _ h => absurd h List.not_mem_nil⟩⟩⟩⟩⟩⟩⟩⟩⟩⟩⟩⟩⟩⟩⟩⟩
theorem lw_p16 : lw_okq (⟨"ClocksTold$Shop", "evening", "(LClocksTold$Course;I)I"⟩, 11) := ⟨⟨by decide +kernel, by decide +kernel⟩, List.mem_of_getElem? (i := 29) (by decide +kernel), List.mem_of_getElem? (i := 393) (by decide +kernel), List.mem_of_getElem? (i := 394) (by decide +kernel)⟩
theorem lw_p17 : lw_okq (⟨"ClocksTold$Shop", "night", "(LClocksTold$Course;)V"⟩, 11) := ⟨⟨by decide +kernel, by decide +kernel⟩, List.mem_of_getElem? (i := 29) (by decide +kernel), List.mem_of_getElem? (i := 399) (by decide +kernel), List.mem_of_getElem? (i := 400) (by decide +kernel)⟩
theorem lw_p18 : lw_okq (⟨"ClocksTold$Reader", "take", "(B)Z"⟩, 6) := ⟨⟨by decide +kernel, by decide +kernel⟩, List.mem_of_getElem? (i := 130) (by decide +kernel), List.mem_of_getElem? (i := 425) (by decide +kernel), List.mem_of_getElem? (i := 426) (by decide +kernel)⟩
theorem lw_p19 : lw_okq (⟨"ClocksTold$Reader", "readInto", "(LClocksTold$Bench;)Z"⟩, 6) := ⟨⟨by decide +kernel, by decide +kernel⟩, List.mem_of_getElem? (i := 130) (by decide +kernel), List.mem_of_getElem? (i := 433) (by decide +kernel), List.mem_of_getElem? (i := 434) (by decide +kernel)⟩
theorem lw_p20 : lw_okq (⟨"ClocksTold$Bench", "clear", "()V"⟩, 6) := ⟨⟨by decide +kernel, by decide +kernel⟩, List.mem_of_getElem? (i := 235) (by decide +kernel), List.mem_of_getElem? (i := 437) (by decide +kernel), List.mem_of_getElem? (i := 438) (by decide +kernel)⟩
theorem lw_p21 : lw_okq (⟨"ClocksTold$Reader", "step", "()V"⟩, 6) := ⟨⟨by decide +kernel, by decide +kernel⟩, List.mem_of_getElem? (i := 130) (by decide +kernel), List.mem_of_getElem? (i := 441) (by decide +kernel), List.mem_of_getElem? (i := 442) (by decide +kernel)⟩
theorem lw_p22 : lw_okq (⟨"ClocksTold$Reader", "clause", "()V"⟩, 6) := ⟨⟨by decide +kernel, by decide +kernel⟩, List.mem_of_getElem? (i := 130) (by decide +kernel), List.mem_of_getElem? (i := 445) (by decide +kernel), List.mem_of_getElem? (i := 446) (by decide +kernel)⟩
theorem lw_p23 : lw_okq (⟨"ClocksTold$Reader", "word", "(Ljava/lang/String;)V"⟩, 6) := ⟨⟨by decide +kernel, by decide +kernel⟩, List.mem_of_getElem? (i := 130) (by decide +kernel), List.mem_of_getElem? (i := 450) (by decide +kernel), List.mem_of_getElem? (i := 451) (by decide +kernel)⟩
theorem lw_p24 : lw_okq (⟨"ClocksTold$Reader", "need", "(C)V"⟩, 6) := ⟨⟨by decide +kernel, by decide +kernel⟩, List.mem_of_getElem? (i := 130) (by decide +kernel), List.mem_of_getElem? (i := 502) (by decide +kernel), List.mem_of_getElem? (i := 503) (by decide +kernel)⟩
theorem lw_p25 : lw_okq (⟨"ClocksTold$Reader", "number", "()I"⟩, 6) := ⟨⟨by decide +kernel, by decide +kernel⟩, List.mem_of_getElem? (i := 130) (by decide +kernel), List.mem_of_getElem? (i := 506) (by decide +kernel), List.mem_of_getElem? (i := 507) (by decide +kernel)⟩
theorem lw_p26 : lw_okq (⟨"ClocksTold$Reader", "isDigit", "()Z"⟩, 6) := ⟨⟨by decide +kernel, by decide +kernel⟩, List.mem_of_getElem? (i := 130) (by decide +kernel), List.mem_of_getElem? (i := 510) (by decide +kernel), List.mem_of_getElem? (i := 511) (by decide +kernel)⟩
theorem lw_p27 : lw_okq (⟨"ClocksTold$Reader", "either", "(I)V"⟩, 6) := ⟨⟨by decide +kernel, by decide +kernel⟩, List.mem_of_getElem? (i := 130) (by decide +kernel), List.mem_of_getElem? (i := 517) (by decide +kernel), List.mem_of_getElem? (i := 518) (by decide +kernel)⟩
theorem lw_p28 : lw_okq (⟨"ClocksTold$Reader", "both", "(I)V"⟩, 6) := ⟨⟨by decide +kernel, by decide +kernel⟩, List.mem_of_getElem? (i := 130) (by decide +kernel), List.mem_of_getElem? (i := 521) (by decide +kernel), List.mem_of_getElem? (i := 522) (by decide +kernel)⟩
theorem lw_p29 : lw_okq (⟨"ClocksTold$Reader", "factor", "(I)V"⟩, 6) := ⟨⟨by decide +kernel, by decide +kernel⟩, List.mem_of_getElem? (i := 130) (by decide +kernel), List.mem_of_getElem? (i := 525) (by decide +kernel), List.mem_of_getElem? (i := 526) (by decide +kernel)⟩
theorem lw_p30 : lw_okq (⟨"ClocksTold$Bench", "addStep", "(I)V"⟩, 6) := ⟨⟨by decide +kernel, by decide +kernel⟩, List.mem_of_getElem? (i := 235) (by decide +kernel), List.mem_of_getElem? (i := 529) (by decide +kernel), List.mem_of_getElem? (i := 530) (by decide +kernel)⟩
theorem lw_p31 : lw_okq (⟨"ClocksTold$Reader", "choice", "(Ljava/lang/String;)I"⟩, 6) := ⟨⟨by decide +kernel, by decide +kernel⟩, List.mem_of_getElem? (i := 130) (by decide +kernel), List.mem_of_getElem? (i := 534) (by decide +kernel), List.mem_of_getElem? (i := 535) (by decide +kernel)⟩
def lw_privs_2 : List (MethodName × Nat) := [(⟨"ClocksTold$Shop", "evening", "(LClocksTold$Course;I)I"⟩, 11), (⟨"ClocksTold$Shop", "night", "(LClocksTold$Course;)V"⟩, 11), (⟨"ClocksTold$Reader", "take", "(B)Z"⟩, 6), (⟨"ClocksTold$Reader", "readInto", "(LClocksTold$Bench;)Z"⟩, 6), (⟨"ClocksTold$Bench", "clear", "()V"⟩, 6), (⟨"ClocksTold$Reader", "step", "()V"⟩, 6), (⟨"ClocksTold$Reader", "clause", "()V"⟩, 6), (⟨"ClocksTold$Reader", "word", "(Ljava/lang/String;)V"⟩, 6), (⟨"ClocksTold$Reader", "need", "(C)V"⟩, 6), (⟨"ClocksTold$Reader", "number", "()I"⟩, 6), (⟨"ClocksTold$Reader", "isDigit", "()Z"⟩, 6), (⟨"ClocksTold$Reader", "either", "(I)V"⟩, 6), (⟨"ClocksTold$Reader", "both", "(I)V"⟩, 6), (⟨"ClocksTold$Reader", "factor", "(I)V"⟩, 6), (⟨"ClocksTold$Bench", "addStep", "(I)V"⟩, 6), (⟨"ClocksTold$Reader", "choice", "(Ljava/lang/String;)I"⟩, 6)]
theorem lw_r2 : ∀ q ∈ lw_privs_2, lw_okq q := List.forall_mem_cons.mpr ⟨lw_p16, List.forall_mem_cons.mpr ⟨lw_p17, List.forall_mem_cons.mpr ⟨lw_p18, List.forall_mem_cons.mpr ⟨lw_p19, List.forall_mem_cons.mpr ⟨lw_p20, List.forall_mem_cons.mpr ⟨lw_p21, List.forall_mem_cons.mpr ⟨lw_p22, List.forall_mem_cons.mpr ⟨lw_p23, List.forall_mem_cons.mpr ⟨lw_p24, List.forall_mem_cons.mpr ⟨lw_p25, List.forall_mem_cons.mpr ⟨lw_p26, List.forall_mem_cons.mpr ⟨lw_p27, List.forall_mem_cons.mpr ⟨lw_p28, List.forall_mem_cons.mpr ⟨lw_p29, List.forall_mem_cons.mpr ⟨lw_p30, List.forall_mem_cons.mpr ⟨lw_p31, fun _ h => absurd h List.not_mem_nil⟩⟩⟩⟩⟩⟩⟩⟩⟩⟩⟩⟩⟩⟩⟩⟩
theorem lw_p32 : lw_okq (⟨"ClocksTold$Bench", "addClause", "(I)V"⟩, 6) := ⟨⟨by decide +kernel, by decide +kernel⟩, List.mem_of_getElem? (i := 235) (by decide +kernel), List.mem_of_getElem? (i := 599) (by decide +kernel), List.mem_of_getElem? (i := 600) (by decide +kernel)⟩
theorem lw_p33 : lw_okq (⟨"ClocksTold$Shop", "hold", "(LClocksTold$Bench;)V"⟩, 11) := ⟨⟨by decide +kernel, by decide +kernel⟩, List.mem_of_getElem? (i := 29) (by decide +kernel), List.mem_of_getElem? (i := 603) (by decide +kernel), List.mem_of_getElem? (i := 604) (by decide +kernel)⟩
theorem lw_p34 : lw_okq (⟨"ClocksTold$Shop", "howManyUp", "(LClocksTold$Course;)I"⟩, 11) := ⟨⟨by decide +kernel, by decide +kernel⟩, List.mem_of_getElem? (i := 29) (by decide +kernel), List.mem_of_getElem? (i := 612) (by decide +kernel), List.mem_of_getElem? (i := 613) (by decide +kernel)⟩
theorem lw_p35 : lw_okq (⟨"ClocksTold$Shop", "leftOfAll", "(LClocksTold$Course;)I"⟩, 11) := ⟨⟨by decide +kernel, by decide +kernel⟩, List.mem_of_getElem? (i := 29) (by decide +kernel), List.mem_of_getElem? (i := 616) (by decide +kernel), List.mem_of_getElem? (i := 617) (by decide +kernel)⟩
theorem lw_p36 : lw_okq (⟨"ClocksTold$Asker", "behind", "(III)I"⟩, 4) := ⟨⟨by decide +kernel, by decide +kernel⟩, List.mem_of_getElem? (i := 160) (by decide +kernel), List.mem_of_getElem? (i := 635) (by decide +kernel), List.mem_of_getElem? (i := 636) (by decide +kernel)⟩
theorem lw_p37 : lw_okq (⟨"ClocksTold$Asker", "tellOften", "(II)V"⟩, 4) := ⟨⟨by decide +kernel, by decide +kernel⟩, List.mem_of_getElem? (i := 160) (by decide +kernel), List.mem_of_getElem? (i := 639) (by decide +kernel), List.mem_of_getElem? (i := 640) (by decide +kernel)⟩
theorem lw_p38 : lw_okq (⟨"ClocksTold$Planner", "findOrder", "()V"⟩, 5) := ⟨⟨by decide +kernel, by decide +kernel⟩, List.mem_of_getElem? (i := 183) (by decide +kernel), List.mem_of_getElem? (i := 648) (by decide +kernel), List.mem_of_getElem? (i := 649) (by decide +kernel)⟩
theorem lw_p39 : lw_okq (⟨"ClocksTold$Planner", "tryOrders", "(III)V"⟩, 5) := ⟨⟨by decide +kernel, by decide +kernel⟩, List.mem_of_getElem? (i := 183) (by decide +kernel), List.mem_of_getElem? (i := 653) (by decide +kernel), List.mem_of_getElem? (i := 654) (by decide +kernel)⟩
theorem lw_p40 : lw_okq (⟨"ClocksTold$Planner", "keep", "(I)V"⟩, 5) := ⟨⟨by decide +kernel, by decide +kernel⟩, List.mem_of_getElem? (i := 183) (by decide +kernel), List.mem_of_getElem? (i := 657) (by decide +kernel), List.mem_of_getElem? (i := 658) (by decide +kernel)⟩
theorem lw_p41 : lw_okq (⟨"ClocksTold$Planner", "turn", "(LClocksTold$Course;I)I"⟩, 5) := ⟨⟨by decide +kernel, by decide +kernel⟩, List.mem_of_getElem? (i := 183) (by decide +kernel), List.mem_of_getElem? (i := 664) (by decide +kernel), List.mem_of_getElem? (i := 665) (by decide +kernel)⟩
theorem lw_p42 : lw_okq (⟨"ClocksTold$Planner", "findRow", "(I)V"⟩, 5) := ⟨⟨by decide +kernel, by decide +kernel⟩, List.mem_of_getElem? (i := 183) (by decide +kernel), List.mem_of_getElem? (i := 674) (by decide +kernel), List.mem_of_getElem? (i := 675) (by decide +kernel)⟩
theorem lw_p43 : lw_okq (⟨"ClocksTold$Planner", "tryRows", "(II)V"⟩, 5) := ⟨⟨by decide +kernel, by decide +kernel⟩, List.mem_of_getElem? (i := 183) (by decide +kernel), List.mem_of_getElem? (i := 678) (by decide +kernel), List.mem_of_getElem? (i := 679) (by decide +kernel)⟩
theorem lw_p44 : lw_okq (⟨"ClocksTold$Asker", "bestNext", "()I"⟩, 4) := ⟨⟨by decide +kernel, by decide +kernel⟩, List.mem_of_getElem? (i := 160) (by decide +kernel), List.mem_of_getElem? (i := 687) (by decide +kernel), List.mem_of_getElem? (i := 688) (by decide +kernel)⟩
theorem lw_p45 : lw_okq (⟨"ClocksTold$Rows", "empty", "()I"⟩, 3) := ⟨⟨by decide +kernel, by decide +kernel⟩, List.mem_of_getElem? (i := 63) (by decide +kernel), List.mem_of_getElem? (i := 697) (by decide +kernel), List.mem_of_getElem? (i := 698) (by decide +kernel)⟩
theorem lw_p46 : lw_okq (⟨"ClocksTold$Rows", "put", "(III)I"⟩, 3) := ⟨⟨by decide +kernel, by decide +kernel⟩, List.mem_of_getElem? (i := 63) (by decide +kernel), List.mem_of_getElem? (i := 701) (by decide +kernel), List.mem_of_getElem? (i := 702) (by decide +kernel)⟩
theorem lw_p47 : lw_okq (⟨"ClocksTold$Asker", "weighDays", "(I)V"⟩, 4) := ⟨⟨by decide +kernel, by decide +kernel⟩, List.mem_of_getElem? (i := 160) (by decide +kernel), List.mem_of_getElem? (i := 709) (by decide +kernel), List.mem_of_getElem? (i := 710) (by decide +kernel)⟩
def lw_privs_3 : List (MethodName × Nat) := [(⟨"ClocksTold$Bench", "addClause", "(I)V"⟩, 6), (⟨"ClocksTold$Shop", "hold", "(LClocksTold$Bench;)V"⟩, 11), (⟨"ClocksTold$Shop", "howManyUp", "(LClocksTold$Course;)I"⟩, 11), (⟨"ClocksTold$Shop", "leftOfAll", "(LClocksTold$Course;)I"⟩, 11), (⟨"ClocksTold$Asker", "behind", "(III)I"⟩, 4), (⟨"ClocksTold$Asker", "tellOften", "(II)V"⟩, 4), (⟨"ClocksTold$Planner", "findOrder", "()V"⟩, 5), (⟨"ClocksTold$Planner", "tryOrders", "(III)V"⟩, 5), (⟨"ClocksTold$Planner", "keep", "(I)V"⟩, 5), (⟨"ClocksTold$Planner", "turn", "(LClocksTold$Course;I)I"⟩, 5), (⟨"ClocksTold$Planner", "findRow", "(I)V"⟩, 5), (⟨"ClocksTold$Planner", "tryRows", "(II)V"⟩, 5), (⟨"ClocksTold$Asker", "bestNext", "()I"⟩, 4), (⟨"ClocksTold$Rows", "empty", "()I"⟩, 3), (⟨"ClocksTold$Rows", "put", "(III)I"⟩, 3), (⟨"ClocksTold$Asker", "weighDays", "(I)V"⟩, 4)]
theorem lw_r3 : ∀ q ∈ lw_privs_3, lw_okq q := List.forall_mem_cons.mpr ⟨lw_p32, List.forall_mem_cons.mpr ⟨lw_p33, List.forall_mem_cons.mpr ⟨lw_p34, List.forall_mem_cons.mpr ⟨lw_p35, List.forall_mem_cons.mpr ⟨lw_p36, List.forall_mem_cons.mpr ⟨lw_p37, List.forall_mem_cons.mpr ⟨lw_p38, List.forall_mem_cons.mpr ⟨lw_p39, List.forall_mem_cons.mpr ⟨lw_p40, List.forall_mem_cons.mpr ⟨lw_p41, List.forall_mem_cons.mpr ⟨lw_p42, List.forall_mem_cons.mpr ⟨lw_p43, List.forall_mem_cons.mpr ⟨lw_p44, List.forall_mem_cons.mpr ⟨lw_p45, List.forall_mem_cons.mpr ⟨lw_p46, List.forall_mem_cons.mpr ⟨lw_p47, fun _ h => absurd h List.not_mem_nil⟩⟩⟩⟩⟩⟩⟩⟩⟩⟩⟩⟩⟩⟩⟩⟩
theorem lw_p48 : lw_okq (⟨"ClocksTold$Asker", "weighNothing", "()V"⟩, 4) := ⟨⟨by decide +kernel, by decide +kernel⟩, List.mem_of_getElem? (i := 160) (by decide +kernel), List.mem_of_getElem? (i := 713) (by decide +kernel), List.mem_of_getElem? (i := 714) (by decide +kernel)⟩
theorem lw_p49 : lw_okq (⟨"ClocksTold$Asker", "weigh", "(III)V"⟩, 4) := ⟨⟨by decide +kernel, by decide +kernel⟩, List.mem_of_getElem? (i := 160) (by decide +kernel), List.mem_of_getElem? (i := 717) (by decide +kernel), List.mem_of_getElem? (i := 718) (by decide +kernel)⟩
theorem lw_p50 : lw_okq (⟨"ClocksTold$Rows", "cell", "(II)I"⟩, 3) := ⟨⟨by decide +kernel, by decide +kernel⟩, List.mem_of_getElem? (i := 63) (by decide +kernel), List.mem_of_getElem? (i := 721) (by decide +kernel), List.mem_of_getElem? (i := 722) (by decide +kernel)⟩
theorem lw_p51 : lw_okq (⟨"ClocksTold$Asker", "isSo", "(III)Z"⟩, 4) := ⟨⟨by decide +kernel, by decide +kernel⟩, List.mem_of_getElem? (i := 160) (by decide +kernel), List.mem_of_getElem? (i := 725) (by decide +kernel), List.mem_of_getElem? (i := 726) (by decide +kernel)⟩
theorem lw_p52 : lw_okq (⟨"ClocksTold$Asker", "weighValues", "(I)V"⟩, 4) := ⟨⟨by decide +kernel, by decide +kernel⟩, List.mem_of_getElem? (i := 160) (by decide +kernel), List.mem_of_getElem? (i := 733) (by decide +kernel), List.mem_of_getElem? (i := 734) (by decide +kernel)⟩
theorem lw_p53 : lw_okq (⟨"ClocksTold$Asker", "howManyUpBehind", "(I)I"⟩, 4) := ⟨⟨by decide +kernel, by decide +kernel⟩, List.mem_of_getElem? (i := 160) (by decide +kernel), List.mem_of_getElem? (i := 743) (by decide +kernel), List.mem_of_getElem? (i := 744) (by decide +kernel)⟩
theorem lw_p54 : lw_okq (⟨"ClocksTold$Asker", "monthEnds", "(I)I"⟩, 4) := ⟨⟨by decide +kernel, by decide +kernel⟩, List.mem_of_getElem? (i := 160) (by decide +kernel), List.mem_of_getElem? (i := 765) (by decide +kernel), List.mem_of_getElem? (i := 766) (by decide +kernel)⟩
theorem lw_p55 : lw_okq (⟨"ClocksTold$Tape", "has", "(I)Z"⟩, 3) := ⟨⟨by decide +kernel, by decide +kernel⟩, List.mem_of_getElem? (i := 261) (by decide +kernel), List.mem_of_getElem? (i := 787) (by decide +kernel), List.mem_of_getElem? (i := 788) (by decide +kernel)⟩
theorem lw_p56 : lw_okq (⟨"ClocksTold$Shop", "copyFrom", "(LClocksTold$Shop;)V"⟩, 11) := ⟨⟨by decide +kernel, by decide +kernel⟩, List.mem_of_getElem? (i := 29) (by decide +kernel), List.mem_of_getElem? (i := 795) (by decide +kernel), List.mem_of_getElem? (i := 796) (by decide +kernel)⟩
theorem lw_p57 : lw_okq (⟨"ClocksTold$Rows", "copyFrom", "(LClocksTold$Rows;)V"⟩, 3) := ⟨⟨by decide +kernel, by decide +kernel⟩, List.mem_of_getElem? (i := 63) (by decide +kernel), List.mem_of_getElem? (i := 801) (by decide +kernel), List.mem_of_getElem? (i := 802) (by decide +kernel)⟩
theorem lw_p58 : lw_okq (⟨"ClocksTold$Acts", "start", "(IIIII)I"⟩, 5) := ⟨⟨by decide +kernel, by decide +kernel⟩, List.mem_of_getElem? (i := 210) (by decide +kernel), List.mem_of_getElem? (i := 814) (by decide +kernel), List.mem_of_getElem? (i := 815) (by decide +kernel)⟩
theorem lw_p59 : lw_okq (⟨"ClocksTold$Acts", "run", "(IIII)I"⟩, 5) := ⟨⟨by decide +kernel, by decide +kernel⟩, List.mem_of_getElem? (i := 210) (by decide +kernel), List.mem_of_getElem? (i := 818) (by decide +kernel), List.mem_of_getElem? (i := 819) (by decide +kernel)⟩
theorem lw_p60 : lw_okq (⟨"ClocksTold$Acts", "note", "(I)V"⟩, 5) := ⟨⟨by decide +kernel, by decide +kernel⟩, List.mem_of_getElem? (i := 210) (by decide +kernel), List.mem_of_getElem? (i := 829) (by decide +kernel), List.mem_of_getElem? (i := 830) (by decide +kernel)⟩
theorem lw_p61 : lw_okq (⟨"ClocksTold$Tape", "become", "(II)V"⟩, 3) := ⟨⟨by decide +kernel, by decide +kernel⟩, List.mem_of_getElem? (i := 261) (by decide +kernel), List.mem_of_getElem? (i := 854) (by decide +kernel), List.mem_of_getElem? (i := 855) (by decide +kernel)⟩
theorem lw_p62 : lw_okq (⟨"ClocksTold$Tape", "cut", "(J)J"⟩, 3) := ⟨⟨by decide +kernel, by decide +kernel⟩, List.mem_of_getElem? (i := 261) (by decide +kernel), List.mem_of_getElem? (i := 865) (by decide +kernel), List.mem_of_getElem? (i := 866) (by decide +kernel)⟩
theorem lw_p63 : lw_okq (⟨"ClocksTold$Tape", "hasRun", "(II)Z"⟩, 3) := ⟨⟨by decide +kernel, by decide +kernel⟩, List.mem_of_getElem? (i := 261) (by decide +kernel), List.mem_of_getElem? (i := 877) (by decide +kernel), List.mem_of_getElem? (i := 878) (by decide +kernel)⟩
def lw_privs_4 : List (MethodName × Nat) := [(⟨"ClocksTold$Asker", "weighNothing", "()V"⟩, 4), (⟨"ClocksTold$Asker", "weigh", "(III)V"⟩, 4), (⟨"ClocksTold$Rows", "cell", "(II)I"⟩, 3), (⟨"ClocksTold$Asker", "isSo", "(III)Z"⟩, 4), (⟨"ClocksTold$Asker", "weighValues", "(I)V"⟩, 4), (⟨"ClocksTold$Asker", "howManyUpBehind", "(I)I"⟩, 4), (⟨"ClocksTold$Asker", "monthEnds", "(I)I"⟩, 4), (⟨"ClocksTold$Tape", "has", "(I)Z"⟩, 3), (⟨"ClocksTold$Shop", "copyFrom", "(LClocksTold$Shop;)V"⟩, 11), (⟨"ClocksTold$Rows", "copyFrom", "(LClocksTold$Rows;)V"⟩, 3), (⟨"ClocksTold$Acts", "start", "(IIIII)I"⟩, 5), (⟨"ClocksTold$Acts", "run", "(IIII)I"⟩, 5), (⟨"ClocksTold$Acts", "note", "(I)V"⟩, 5), (⟨"ClocksTold$Tape", "become", "(II)V"⟩, 3), (⟨"ClocksTold$Tape", "cut", "(J)J"⟩, 3), (⟨"ClocksTold$Tape", "hasRun", "(II)Z"⟩, 3)]
theorem lw_r4 : ∀ q ∈ lw_privs_4, lw_okq q := List.forall_mem_cons.mpr ⟨lw_p48, List.forall_mem_cons.mpr ⟨lw_p49, List.forall_mem_cons.mpr ⟨lw_p50, List.forall_mem_cons.mpr ⟨lw_p51, List.forall_mem_cons.mpr ⟨lw_p52, List.forall_mem_cons.mpr ⟨lw_p53, List.forall_mem_cons.mpr ⟨lw_p54, List.forall_mem_cons.mpr ⟨lw_p55, List.forall_mem_cons.mpr ⟨lw_p56, List.forall_mem_cons.mpr ⟨lw_p57, List.forall_mem_cons.mpr ⟨lw_p58, List.forall_mem_cons.mpr ⟨lw_p59, List.forall_mem_cons.mpr ⟨lw_p60, List.forall_mem_cons.mpr ⟨lw_p61, List.forall_mem_cons.mpr ⟨lw_p62, List.forall_mem_cons.mpr ⟨lw_p63, fun _ h => absurd h List.not_mem_nil⟩⟩⟩⟩⟩⟩⟩⟩⟩⟩⟩⟩⟩⟩⟩⟩
theorem lw_p64 : lw_okq (⟨"ClocksToldModel", "in", "(III)Z"⟩, 66) := ⟨⟨by decide +kernel, by decide +kernel⟩, List.mem_of_getElem? (i := 882) (by decide +kernel), List.mem_of_getElem? (i := 1091) (by decide +kernel), List.mem_of_getElem? (i := 1092) (by decide +kernel)⟩
theorem lw_p65 : lw_okq (⟨"ClocksToldModel", "balks", "(IZ)V"⟩, 66) := ⟨⟨by decide +kernel, by decide +kernel⟩, List.mem_of_getElem? (i := 882) (by decide +kernel), List.mem_of_getElem? (i := 1095) (by decide +kernel), List.mem_of_getElem? (i := 1096) (by decide +kernel)⟩
theorem lw_p66 : lw_okq (⟨"ClocksToldModel", "isClock", "(I)Z"⟩, 66) := ⟨⟨by decide +kernel, by decide +kernel⟩, List.mem_of_getElem? (i := 882) (by decide +kernel), List.mem_of_getElem? (i := 1103) (by decide +kernel), List.mem_of_getElem? (i := 1104) (by decide +kernel)⟩
theorem lw_p67 : lw_okq (⟨"ClocksToldModel", "has", "(II)Z"⟩, 66) := ⟨⟨by decide +kernel, by decide +kernel⟩, List.mem_of_getElem? (i := 882) (by decide +kernel), List.mem_of_getElem? (i := 1111) (by decide +kernel), List.mem_of_getElem? (i := 1112) (by decide +kernel)⟩
theorem lw_p68 : lw_okq (⟨"ClocksToldModel", "goesText", "(I)Z"⟩, 66) := ⟨⟨by decide +kernel, by decide +kernel⟩, List.mem_of_getElem? (i := 882) (by decide +kernel), List.mem_of_getElem? (i := 1127) (by decide +kernel), List.mem_of_getElem? (i := 1128) (by decide +kernel)⟩
theorem lw_p69 : lw_okq (⟨"ClocksToldModel", "takesClause", "(I)Z"⟩, 66) := ⟨⟨by decide +kernel, by decide +kernel⟩, List.mem_of_getElem? (i := 882) (by decide +kernel), List.mem_of_getElem? (i := 1131) (by decide +kernel), List.mem_of_getElem? (i := 1132) (by decide +kernel)⟩
theorem lw_p70 : lw_okq (⟨"ClocksToldModel", "takesHead", "(I)Z"⟩, 66) := ⟨⟨by decide +kernel, by decide +kernel⟩, List.mem_of_getElem? (i := 882) (by decide +kernel), List.mem_of_getElem? (i := 1135) (by decide +kernel), List.mem_of_getElem? (i := 1136) (by decide +kernel)⟩
theorem lw_p71 : lw_okq (⟨"ClocksToldModel", "peek", "()I"⟩, 66) := ⟨⟨by decide +kernel, by decide +kernel⟩, List.mem_of_getElem? (i := 882) (by decide +kernel), List.mem_of_getElem? (i := 1139) (by decide +kernel), List.mem_of_getElem? (i := 1140) (by decide +kernel)⟩
theorem lw_p72 : lw_okq (⟨"ClocksToldModel", "takesWord", "(II)Z"⟩, 66) := ⟨⟨by decide +kernel, by decide +kernel⟩, List.mem_of_getElem? (i := 882) (by decide +kernel), List.mem_of_getElem? (i := 1143) (by decide +kernel), List.mem_of_getElem? (i := 1144) (by decide +kernel)⟩
theorem lw_p73 : lw_okq (⟨"ClocksToldModel", "takes", "(I)Z"⟩, 66) := ⟨⟨by decide +kernel, by decide +kernel⟩, List.mem_of_getElem? (i := 882) (by decide +kernel), List.mem_of_getElem? (i := 1147) (by decide +kernel), List.mem_of_getElem? (i := 1148) (by decide +kernel)⟩
theorem lw_p74 : lw_okq (⟨"ClocksToldModel", "takesNumber", "()Z"⟩, 66) := ⟨⟨by decide +kernel, by decide +kernel⟩, List.mem_of_getElem? (i := 882) (by decide +kernel), List.mem_of_getElem? (i := 1151) (by decide +kernel), List.mem_of_getElem? (i := 1152) (by decide +kernel)⟩
theorem lw_p75 : lw_okq (⟨"ClocksToldModel", "isDigit", "()Z"⟩, 66) := ⟨⟨by decide +kernel, by decide +kernel⟩, List.mem_of_getElem? (i := 882) (by decide +kernel), List.mem_of_getElem? (i := 1155) (by decide +kernel), List.mem_of_getElem? (i := 1156) (by decide +kernel)⟩
theorem lw_p76 : lw_okq (⟨"ClocksToldModel", "takesE", "(I)Z"⟩, 66) := ⟨⟨by decide +kernel, by decide +kernel⟩, List.mem_of_getElem? (i := 882) (by decide +kernel), List.mem_of_getElem? (i := 1159) (by decide +kernel), List.mem_of_getElem? (i := 1160) (by decide +kernel)⟩
theorem lw_p77 : lw_okq (⟨"ClocksToldModel", "takesTest", "()Z"⟩, 66) := ⟨⟨by decide +kernel, by decide +kernel⟩, List.mem_of_getElem? (i := 882) (by decide +kernel), List.mem_of_getElem? (i := 1163) (by decide +kernel), List.mem_of_getElem? (i := 1164) (by decide +kernel)⟩
theorem lw_p78 : lw_okq (⟨"ClocksToldModel", "place", "(I)I"⟩, 66) := ⟨⟨by decide +kernel, by decide +kernel⟩, List.mem_of_getElem? (i := 882) (by decide +kernel), List.mem_of_getElem? (i := 1167) (by decide +kernel), List.mem_of_getElem? (i := 1168) (by decide +kernel)⟩
theorem lw_p79 : lw_okq (⟨"ClocksToldModel", "emits", "(I)V"⟩, 66) := ⟨⟨by decide +kernel, by decide +kernel⟩, List.mem_of_getElem? (i := 882) (by decide +kernel), List.mem_of_getElem? (i := 1171) (by decide +kernel), List.mem_of_getElem? (i := 1172) (by decide +kernel)⟩
def lw_privs_5 : List (MethodName × Nat) := [(⟨"ClocksToldModel", "in", "(III)Z"⟩, 66), (⟨"ClocksToldModel", "balks", "(IZ)V"⟩, 66), (⟨"ClocksToldModel", "isClock", "(I)Z"⟩, 66), (⟨"ClocksToldModel", "has", "(II)Z"⟩, 66), (⟨"ClocksToldModel", "goesText", "(I)Z"⟩, 66), (⟨"ClocksToldModel", "takesClause", "(I)Z"⟩, 66), (⟨"ClocksToldModel", "takesHead", "(I)Z"⟩, 66), (⟨"ClocksToldModel", "peek", "()I"⟩, 66), (⟨"ClocksToldModel", "takesWord", "(II)Z"⟩, 66), (⟨"ClocksToldModel", "takes", "(I)Z"⟩, 66), (⟨"ClocksToldModel", "takesNumber", "()Z"⟩, 66), (⟨"ClocksToldModel", "isDigit", "()Z"⟩, 66), (⟨"ClocksToldModel", "takesE", "(I)Z"⟩, 66), (⟨"ClocksToldModel", "takesTest", "()Z"⟩, 66), (⟨"ClocksToldModel", "place", "(I)I"⟩, 66), (⟨"ClocksToldModel", "emits", "(I)V"⟩, 66)]
theorem lw_r5 : ∀ q ∈ lw_privs_5, lw_okq q := List.forall_mem_cons.mpr ⟨lw_p64, List.forall_mem_cons.mpr ⟨lw_p65, List.forall_mem_cons.mpr ⟨lw_p66, List.forall_mem_cons.mpr ⟨lw_p67, List.forall_mem_cons.mpr ⟨lw_p68, List.forall_mem_cons.mpr ⟨lw_p69, List.forall_mem_cons.mpr ⟨lw_p70, List.forall_mem_cons.mpr ⟨lw_p71, List.forall_mem_cons.mpr ⟨lw_p72, List.forall_mem_cons.mpr ⟨lw_p73, List.forall_mem_cons.mpr ⟨lw_p74, List.forall_mem_cons.mpr ⟨lw_p75, List.forall_mem_cons.mpr ⟨lw_p76, List.forall_mem_cons.mpr ⟨lw_p77, List.forall_mem_cons.mpr ⟨lw_p78, List.forall_mem_cons.mpr ⟨lw_p79, fun _ h => absurd h List.not_mem_nil⟩⟩⟩⟩⟩⟩⟩⟩⟩⟩⟩⟩⟩⟩⟩⟩
theorem lw_p80 : lw_okq (⟨"ClocksToldModel", "whole", "()V"⟩, 66) := ⟨⟨by decide +kernel, by decide +kernel⟩, List.mem_of_getElem? (i := 882) (by decide +kernel), List.mem_of_getElem? (i := 1175) (by decide +kernel), List.mem_of_getElem? (i := 1176) (by decide +kernel)⟩
theorem lw_p81 : lw_okq (⟨"ClocksToldModel", "settle", "(I)V"⟩, 66) := ⟨⟨by decide +kernel, by decide +kernel⟩, List.mem_of_getElem? (i := 882) (by decide +kernel), List.mem_of_getElem? (i := 1179) (by decide +kernel), List.mem_of_getElem? (i := 1180) (by decide +kernel)⟩
theorem lw_p82 : lw_okq (⟨"ClocksToldModel", "isDay", "(I)Z"⟩, 66) := ⟨⟨by decide +kernel, by decide +kernel⟩, List.mem_of_getElem? (i := 882) (by decide +kernel), List.mem_of_getElem? (i := 1187) (by decide +kernel), List.mem_of_getElem? (i := 1188) (by decide +kernel)⟩
theorem lw_p83 : lw_okq (⟨"ClocksToldModel", "newsOf", "(II)I"⟩, 66) := ⟨⟨by decide +kernel, by decide +kernel⟩, List.mem_of_getElem? (i := 882) (by decide +kernel), List.mem_of_getElem? (i := 1191) (by decide +kernel), List.mem_of_getElem? (i := 1192) (by decide +kernel)⟩
theorem lw_p84 : lw_okq (⟨"ClocksToldModel", "newsNow", "(II)I"⟩, 66) := ⟨⟨by decide +kernel, by decide +kernel⟩, List.mem_of_getElem? (i := 882) (by decide +kernel), List.mem_of_getElem? (i := 1195) (by decide +kernel), List.mem_of_getElem? (i := 1196) (by decide +kernel)⟩
theorem lw_p85 : lw_okq (⟨"ClocksToldModel", "begin", "()I"⟩, 66) := ⟨⟨by decide +kernel, by decide +kernel⟩, List.mem_of_getElem? (i := 882) (by decide +kernel), List.mem_of_getElem? (i := 1199) (by decide +kernel), List.mem_of_getElem? (i := 1200) (by decide +kernel)⟩
theorem lw_p86 : lw_okq (⟨"ClocksToldModel", "behind", "()I"⟩, 66) := ⟨⟨by decide +kernel, by decide +kernel⟩, List.mem_of_getElem? (i := 882) (by decide +kernel), List.mem_of_getElem? (i := 1203) (by decide +kernel), List.mem_of_getElem? (i := 1204) (by decide +kernel)⟩
theorem lw_p87 : lw_okq (⟨"ClocksToldModel", "holds", "(III)Z"⟩, 66) := ⟨⟨by decide +kernel, by decide +kernel⟩, List.mem_of_getElem? (i := 882) (by decide +kernel), List.mem_of_getElem? (i := 1207) (by decide +kernel), List.mem_of_getElem? (i := 1208) (by decide +kernel)⟩
theorem lw_p88 : lw_okq (⟨"ClocksToldModel", "factOf", "(III)I"⟩, 66) := ⟨⟨by decide +kernel, by decide +kernel⟩, List.mem_of_getElem? (i := 882) (by decide +kernel), List.mem_of_getElem? (i := 1211) (by decide +kernel), List.mem_of_getElem? (i := 1212) (by decide +kernel)⟩
theorem lw_p89 : lw_okq (⟨"ClocksToldModel", "goEvening", "(I)I"⟩, 66) := ⟨⟨by decide +kernel, by decide +kernel⟩, List.mem_of_getElem? (i := 882) (by decide +kernel), List.mem_of_getElem? (i := 1219) (by decide +kernel), List.mem_of_getElem? (i := 1220) (by decide +kernel)⟩
theorem lw_p90 : lw_okq (⟨"ClocksToldModel", "holdsOf", "(I)I"⟩, 66) := ⟨⟨by decide +kernel, by decide +kernel⟩, List.mem_of_getElem? (i := 882) (by decide +kernel), List.mem_of_getElem? (i := 1223) (by decide +kernel), List.mem_of_getElem? (i := 1224) (by decide +kernel)⟩
theorem lw_p91 : lw_okq (⟨"ClocksToldModel", "pace", "()I"⟩, 66) := ⟨⟨by decide +kernel, by decide +kernel⟩, List.mem_of_getElem? (i := 882) (by decide +kernel), List.mem_of_getElem? (i := 1227) (by decide +kernel), List.mem_of_getElem? (i := 1228) (by decide +kernel)⟩
theorem lw_p92 : lw_okq (⟨"ClocksToldModel", "minds", "(II)Z"⟩, 66) := ⟨⟨by decide +kernel, by decide +kernel⟩, List.mem_of_getElem? (i := 882) (by decide +kernel), List.mem_of_getElem? (i := 1231) (by decide +kernel), List.mem_of_getElem? (i := 1232) (by decide +kernel)⟩
theorem lw_p93 : lw_okq (⟨"ClocksToldModel", "goNight", "()V"⟩, 66) := ⟨⟨by decide +kernel, by decide +kernel⟩, List.mem_of_getElem? (i := 882) (by decide +kernel), List.mem_of_getElem? (i := 1235) (by decide +kernel), List.mem_of_getElem? (i := 1236) (by decide +kernel)⟩
theorem lw_p94 : lw_okq (⟨"ClocksToldModel", "isUp", "(I)Z"⟩, 66) := ⟨⟨by decide +kernel, by decide +kernel⟩, List.mem_of_getElem? (i := 882) (by decide +kernel), List.mem_of_getElem? (i := 1239) (by decide +kernel), List.mem_of_getElem? (i := 1240) (by decide +kernel)⟩
theorem lw_p95 : lw_okq (⟨"ClocksToldModel", "isEvenings", "(I)Z"⟩, 66) := ⟨⟨by decide +kernel, by decide +kernel⟩, List.mem_of_getElem? (i := 882) (by decide +kernel), List.mem_of_getElem? (i := 1247) (by decide +kernel), List.mem_of_getElem? (i := 1248) (by decide +kernel)⟩
def lw_privs_6 : List (MethodName × Nat) := [(⟨"ClocksToldModel", "whole", "()V"⟩, 66), (⟨"ClocksToldModel", "settle", "(I)V"⟩, 66), (⟨"ClocksToldModel", "isDay", "(I)Z"⟩, 66), (⟨"ClocksToldModel", "newsOf", "(II)I"⟩, 66), (⟨"ClocksToldModel", "newsNow", "(II)I"⟩, 66), (⟨"ClocksToldModel", "begin", "()I"⟩, 66), (⟨"ClocksToldModel", "behind", "()I"⟩, 66), (⟨"ClocksToldModel", "holds", "(III)Z"⟩, 66), (⟨"ClocksToldModel", "factOf", "(III)I"⟩, 66), (⟨"ClocksToldModel", "goEvening", "(I)I"⟩, 66), (⟨"ClocksToldModel", "holdsOf", "(I)I"⟩, 66), (⟨"ClocksToldModel", "pace", "()I"⟩, 66), (⟨"ClocksToldModel", "minds", "(II)Z"⟩, 66), (⟨"ClocksToldModel", "goNight", "()V"⟩, 66), (⟨"ClocksToldModel", "isUp", "(I)Z"⟩, 66), (⟨"ClocksToldModel", "isEvenings", "(I)Z"⟩, 66)]
theorem lw_r6 : ∀ q ∈ lw_privs_6, lw_okq q := List.forall_mem_cons.mpr ⟨lw_p80, List.forall_mem_cons.mpr ⟨lw_p81, List.forall_mem_cons.mpr ⟨lw_p82, List.forall_mem_cons.mpr ⟨lw_p83, List.forall_mem_cons.mpr ⟨lw_p84, List.forall_mem_cons.mpr ⟨lw_p85, List.forall_mem_cons.mpr ⟨lw_p86, List.forall_mem_cons.mpr ⟨lw_p87, List.forall_mem_cons.mpr ⟨lw_p88, List.forall_mem_cons.mpr ⟨lw_p89, List.forall_mem_cons.mpr ⟨lw_p90, List.forall_mem_cons.mpr ⟨lw_p91, List.forall_mem_cons.mpr ⟨lw_p92, List.forall_mem_cons.mpr ⟨lw_p93, List.forall_mem_cons.mpr ⟨lw_p94, List.forall_mem_cons.mpr ⟨lw_p95, fun _ h => absurd h List.not_mem_nil⟩⟩⟩⟩⟩⟩⟩⟩⟩⟩⟩⟩⟩⟩⟩⟩
theorem lw_p96 : lw_okq (⟨"ClocksToldModel", "left", "(I)I"⟩, 66) := ⟨⟨by decide +kernel, by decide +kernel⟩, List.mem_of_getElem? (i := 882) (by decide +kernel), List.mem_of_getElem? (i := 1255) (by decide +kernel), List.mem_of_getElem? (i := 1256) (by decide +kernel)⟩
theorem lw_p97 : lw_okq (⟨"ClocksToldModel", "minded", "(I)I"⟩, 66) := ⟨⟨by decide +kernel, by decide +kernel⟩, List.mem_of_getElem? (i := 882) (by decide +kernel), List.mem_of_getElem? (i := 1259) (by decide +kernel), List.mem_of_getElem? (i := 1260) (by decide +kernel)⟩
theorem lw_p98 : lw_okq (⟨"ClocksToldModel", "whole", "(I)I"⟩, 66) := ⟨⟨by decide +kernel, by decide +kernel⟩, List.mem_of_getElem? (i := 882) (by decide +kernel), List.mem_of_getElem? (i := 1263) (by decide +kernel), List.mem_of_getElem? (i := 1264) (by decide +kernel)⟩
theorem lw_p99 : lw_okq (⟨"ClocksToldModel", "save", "()V"⟩, 66) := ⟨⟨by decide +kernel, by decide +kernel⟩, List.mem_of_getElem? (i := 882) (by decide +kernel), List.mem_of_getElem? (i := 1267) (by decide +kernel), List.mem_of_getElem? (i := 1268) (by decide +kernel)⟩
theorem lw_p100 : lw_okq (⟨"ClocksToldModel", "putBack", "()V"⟩, 66) := ⟨⟨by decide +kernel, by decide +kernel⟩, List.mem_of_getElem? (i := 882) (by decide +kernel), List.mem_of_getElem? (i := 1271) (by decide +kernel), List.mem_of_getElem? (i := 1272) (by decide +kernel)⟩
theorem lw_p101 : lw_okq (⟨"ClocksToldModel", "upMany", "()I"⟩, 66) := ⟨⟨by decide +kernel, by decide +kernel⟩, List.mem_of_getElem? (i := 882) (by decide +kernel), List.mem_of_getElem? (i := 1279) (by decide +kernel), List.mem_of_getElem? (i := 1280) (by decide +kernel)⟩
theorem lw_p102 : lw_okq (⟨"ClocksToldModel", "allLeft", "()I"⟩, 66) := ⟨⟨by decide +kernel, by decide +kernel⟩, List.mem_of_getElem? (i := 882) (by decide +kernel), List.mem_of_getElem? (i := 1283) (by decide +kernel), List.mem_of_getElem? (i := 1284) (by decide +kernel)⟩
theorem lw_p103 : lw_okq (⟨"ClocksToldModel", "goEvenings", "(II)V"⟩, 66) := ⟨⟨by decide +kernel, by decide +kernel⟩, List.mem_of_getElem? (i := 882) (by decide +kernel), List.mem_of_getElem? (i := 1291) (by decide +kernel), List.mem_of_getElem? (i := 1292) (by decide +kernel)⟩
theorem lw_p104 : lw_okq (⟨"ClocksToldModel", "layNews", "()V"⟩, 66) := ⟨⟨by decide +kernel, by decide +kernel⟩, List.mem_of_getElem? (i := 882) (by decide +kernel), List.mem_of_getElem? (i := 1299) (by decide +kernel), List.mem_of_getElem? (i := 1300) (by decide +kernel)⟩
theorem lw_p105 : lw_okq (⟨"ClocksToldModel", "layTurn", "(I)Z"⟩, 66) := ⟨⟨by decide +kernel, by decide +kernel⟩, List.mem_of_getElem? (i := 882) (by decide +kernel), List.mem_of_getElem? (i := 1303) (by decide +kernel), List.mem_of_getElem? (i := 1304) (by decide +kernel)⟩
theorem lw_p106 : lw_okq (⟨"ClocksToldModel", "goTurn", "()I"⟩, 66) := ⟨⟨by decide +kernel, by decide +kernel⟩, List.mem_of_getElem? (i := 882) (by decide +kernel), List.mem_of_getElem? (i := 1307) (by decide +kernel), List.mem_of_getElem? (i := 1308) (by decide +kernel)⟩
theorem lw_p107 : lw_okq (⟨"ClocksToldModel", "goWhole", "(I)I"⟩, 66) := ⟨⟨by decide +kernel, by decide +kernel⟩, List.mem_of_getElem? (i := 882) (by decide +kernel), List.mem_of_getElem? (i := 1311) (by decide +kernel), List.mem_of_getElem? (i := 1312) (by decide +kernel)⟩
theorem lw_p108 : lw_okq (⟨"ClocksToldModel", "isSeen", "(I)Z"⟩, 66) := ⟨⟨by decide +kernel, by decide +kernel⟩, List.mem_of_getElem? (i := 882) (by decide +kernel), List.mem_of_getElem? (i := 1331) (by decide +kernel), List.mem_of_getElem? (i := 1332) (by decide +kernel)⟩
theorem lw_p109 : lw_okq (⟨"ClocksToldModel", "lowest", "(III)J"⟩, 66) := ⟨⟨by decide +kernel, by decide +kernel⟩, List.mem_of_getElem? (i := 882) (by decide +kernel), List.mem_of_getElem? (i := 1344) (by decide +kernel), List.mem_of_getElem? (i := 1345) (by decide +kernel)⟩
theorem lw_p110 : lw_okq (⟨"ClocksToldModel", "divisor", "(II)I"⟩, 66) := ⟨⟨by decide +kernel, by decide +kernel⟩, List.mem_of_getElem? (i := 882) (by decide +kernel), List.mem_of_getElem? (i := 1348) (by decide +kernel), List.mem_of_getElem? (i := 1349) (by decide +kernel)⟩
theorem lw_p111 : lw_okq (⟨"ClocksToldModel", "isTape", "(I)Z"⟩, 66) := ⟨⟨by decide +kernel, by decide +kernel⟩, List.mem_of_getElem? (i := 882) (by decide +kernel), List.mem_of_getElem? (i := 1376) (by decide +kernel), List.mem_of_getElem? (i := 1377) (by decide +kernel)⟩
def lw_privs_7 : List (MethodName × Nat) := [(⟨"ClocksToldModel", "left", "(I)I"⟩, 66), (⟨"ClocksToldModel", "minded", "(I)I"⟩, 66), (⟨"ClocksToldModel", "whole", "(I)I"⟩, 66), (⟨"ClocksToldModel", "save", "()V"⟩, 66), (⟨"ClocksToldModel", "putBack", "()V"⟩, 66), (⟨"ClocksToldModel", "upMany", "()I"⟩, 66), (⟨"ClocksToldModel", "allLeft", "()I"⟩, 66), (⟨"ClocksToldModel", "goEvenings", "(II)V"⟩, 66), (⟨"ClocksToldModel", "layNews", "()V"⟩, 66), (⟨"ClocksToldModel", "layTurn", "(I)Z"⟩, 66), (⟨"ClocksToldModel", "goTurn", "()I"⟩, 66), (⟨"ClocksToldModel", "goWhole", "(I)I"⟩, 66), (⟨"ClocksToldModel", "isSeen", "(I)Z"⟩, 66), (⟨"ClocksToldModel", "lowest", "(III)J"⟩, 66), (⟨"ClocksToldModel", "divisor", "(II)I"⟩, 66), (⟨"ClocksToldModel", "isTape", "(I)Z"⟩, 66)]
theorem lw_r7 : ∀ q ∈ lw_privs_7, lw_okq q := List.forall_mem_cons.mpr ⟨lw_p96, List.forall_mem_cons.mpr ⟨lw_p97, List.forall_mem_cons.mpr ⟨lw_p98, List.forall_mem_cons.mpr ⟨lw_p99, List.forall_mem_cons.mpr ⟨lw_p100, List.forall_mem_cons.mpr ⟨lw_p101, List.forall_mem_cons.mpr ⟨lw_p102, List.forall_mem_cons.mpr ⟨lw_p103, List.forall_mem_cons.mpr ⟨lw_p104, List.forall_mem_cons.mpr ⟨lw_p105, List.forall_mem_cons.mpr ⟨lw_p106, List.forall_mem_cons.mpr ⟨lw_p107, List.forall_mem_cons.mpr ⟨lw_p108, List.forall_mem_cons.mpr ⟨lw_p109, List.forall_mem_cons.mpr ⟨lw_p110, List.forall_mem_cons.mpr ⟨lw_p111, fun _ h => absurd h List.not_mem_nil⟩⟩⟩⟩⟩⟩⟩⟩⟩⟩⟩⟩⟩⟩⟩⟩
theorem lw_p112 : lw_okq (⟨"ClocksToldModel", "ticksAct", "(II)I"⟩, 66) := ⟨⟨by decide +kernel, by decide +kernel⟩, List.mem_of_getElem? (i := 882) (by decide +kernel), List.mem_of_getElem? (i := 1392) (by decide +kernel), List.mem_of_getElem? (i := 1393) (by decide +kernel)⟩
theorem lw_p113 : lw_okq (⟨"ClocksToldModel", "body", "(I)V"⟩, 66) := ⟨⟨by decide +kernel, by decide +kernel⟩, List.mem_of_getElem? (i := 882) (by decide +kernel), List.mem_of_getElem? (i := 1396) (by decide +kernel), List.mem_of_getElem? (i := 1397) (by decide +kernel)⟩
theorem lw_p114 : lw_okq (⟨"ClocksToldModel", "clockTicks", "(II)I"⟩, 66) := ⟨⟨by decide +kernel, by decide +kernel⟩, List.mem_of_getElem? (i := 882) (by decide +kernel), List.mem_of_getElem? (i := 1400) (by decide +kernel), List.mem_of_getElem? (i := 1401) (by decide +kernel)⟩
theorem lw_p115 : lw_okq (⟨"ClocksToldModel", "strikesAct", "(II)I"⟩, 66) := ⟨⟨by decide +kernel, by decide +kernel⟩, List.mem_of_getElem? (i := 882) (by decide +kernel), List.mem_of_getElem? (i := 1404) (by decide +kernel), List.mem_of_getElem? (i := 1405) (by decide +kernel)⟩
theorem lw_p116 : lw_okq (⟨"ClocksToldModel", "fastStrikes", "(II)I"⟩, 66) := ⟨⟨by decide +kernel, by decide +kernel⟩, List.mem_of_getElem? (i := 882) (by decide +kernel), List.mem_of_getElem? (i := 1408) (by decide +kernel), List.mem_of_getElem? (i := 1409) (by decide +kernel)⟩
theorem lw_p117 : lw_okq (⟨"ClocksToldModel", "clockStrikes", "(II)I"⟩, 66) := ⟨⟨by decide +kernel, by decide +kernel⟩, List.mem_of_getElem? (i := 882) (by decide +kernel), List.mem_of_getElem? (i := 1412) (by decide +kernel), List.mem_of_getElem? (i := 1413) (by decide +kernel)⟩
theorem lw_p118 : lw_okq (⟨"ClocksToldModel", "tellsAct", "(II)I"⟩, 66) := ⟨⟨by decide +kernel, by decide +kernel⟩, List.mem_of_getElem? (i := 882) (by decide +kernel), List.mem_of_getElem? (i := 1416) (by decide +kernel), List.mem_of_getElem? (i := 1417) (by decide +kernel)⟩
theorem lw_p119 : lw_okq (⟨"ClocksToldModel", "clockTells", "(II)I"⟩, 66) := ⟨⟨by decide +kernel, by decide +kernel⟩, List.mem_of_getElem? (i := 882) (by decide +kernel), List.mem_of_getElem? (i := 1420) (by decide +kernel), List.mem_of_getElem? (i := 1421) (by decide +kernel)⟩
theorem lw_p120 : lw_okq (⟨"ClocksToldModel", "narrow", "(IJ)J"⟩, 66) := ⟨⟨by decide +kernel, by decide +kernel⟩, List.mem_of_getElem? (i := 882) (by decide +kernel), List.mem_of_getElem? (i := 1444) (by decide +kernel), List.mem_of_getElem? (i := 1445) (by decide +kernel)⟩
def lw_privs_8 : List (MethodName × Nat) := [(⟨"ClocksToldModel", "ticksAct", "(II)I"⟩, 66), (⟨"ClocksToldModel", "body", "(I)V"⟩, 66), (⟨"ClocksToldModel", "clockTicks", "(II)I"⟩, 66), (⟨"ClocksToldModel", "strikesAct", "(II)I"⟩, 66), (⟨"ClocksToldModel", "fastStrikes", "(II)I"⟩, 66), (⟨"ClocksToldModel", "clockStrikes", "(II)I"⟩, 66), (⟨"ClocksToldModel", "tellsAct", "(II)I"⟩, 66), (⟨"ClocksToldModel", "clockTells", "(II)I"⟩, 66), (⟨"ClocksToldModel", "narrow", "(IJ)J"⟩, 66)]
theorem lw_r8 : ∀ q ∈ lw_privs_8, lw_okq q := List.forall_mem_cons.mpr ⟨lw_p112, List.forall_mem_cons.mpr ⟨lw_p113, List.forall_mem_cons.mpr ⟨lw_p114, List.forall_mem_cons.mpr ⟨lw_p115, List.forall_mem_cons.mpr ⟨lw_p116, List.forall_mem_cons.mpr ⟨lw_p117, List.forall_mem_cons.mpr ⟨lw_p118, List.forall_mem_cons.mpr ⟨lw_p119, List.forall_mem_cons.mpr ⟨lw_p120, fun _ h => absurd h List.not_mem_nil⟩⟩⟩⟩⟩⟩⟩⟩⟩
def lw_privs : List (MethodName × Nat) := lw_privs_1 ++ (lw_privs_2 ++ (lw_privs_3 ++ (lw_privs_4 ++ (lw_privs_5 ++ (lw_privs_6 ++ (lw_privs_7 ++ (lw_privs_8)))))))
def lw_tbl : List Cond := k2_sels lw_privs ++ tables_1
theorem lw_privs_ok : ∀ q ∈ lw_privs, lw_okq q := by
  show ∀ q ∈ lw_privs_1 ++ (lw_privs_2 ++ (lw_privs_3 ++ (lw_privs_4 ++ (lw_privs_5 ++ (lw_privs_6 ++ (lw_privs_7 ++ (lw_privs_8))))))), lw_okq q
  exact List.forall_mem_append.mpr ⟨lw_r1, List.forall_mem_append.mpr ⟨lw_r2, List.forall_mem_append.mpr ⟨lw_r3, List.forall_mem_append.mpr ⟨lw_r4, List.forall_mem_append.mpr ⟨lw_r5, List.forall_mem_append.mpr ⟨lw_r6, List.forall_mem_append.mpr ⟨lw_r7, lw_r8⟩⟩⟩⟩⟩⟩⟩

-- names: out of the printed names
def RX0 : String := "ClocksTold$Acts"
def TX0 : u_T := fun k => match k with
  | 0 => ("ClocksTold$Acts", "bodies", "[I", true)
  | 1 => ("ClocksTold$Acts", "ran", "I", false)
  | 2 => ("ClocksTold$Acts", "number", "I", false)
  | 3 => ("ClocksTold$Acts", "kind", "I", false)
  | _ => ("ClocksTold$Acts", "value", "I", false)
def tyX0 : Nat → FieldType := fun k => match k with
  | 0 => .array .int
  | 1 => .int
  | 2 => .int
  | 3 => .int
  | _ => .int
abbrev wsX00 : List Cond := u_ws RX0 TX0 5
theorem nmX0 : ∀ a, a < 5 → ∀ b, b < 5 → a ≠ b → (TX0 a).2.1 ≠ (TX0 b).2.1 := by decide +kernel
theorem tyX0_ok : ∀ k, k < 5 → parseFieldDescriptor (TX0 k).2.2.1 = some (tyX0 k) := by decide +kernel
abbrev cX0_init : ByteArray := prog_2_method_1_code
def yX0_init : MethodName := ⟨RX0, "<init>", "()V"⟩
abbrev cX0_start : ByteArray := prog_2_method_2_code
def yX0_start : MethodName := ⟨RX0, "start", "(IIIII)I"⟩
abbrev cX0_run : ByteArray := prog_2_method_3_code
def yX0_run : MethodName := ⟨RX0, "run", "(IIII)I"⟩
abbrev cX0_bodyFrom : ByteArray := prog_2_method_4_code
def yX0_bodyFrom : MethodName := ⟨RX0, "bodyFrom", "(II)I"⟩
abbrev cX0_note : ByteArray := prog_2_method_5_code
def yX0_note : MethodName := ⟨RX0, "note", "(I)V"⟩
def RX1 : String := "ClocksTold$Asker"
def TX1 : u_T := fun k => match k with
  | 0 => ("ClocksTold$Asker", "shop", "LClocksTold$Shop;", true)
  | 1 => ("ClocksTold$Asker", "course", "LClocksTold$Course;", true)
  | 2 => ("ClocksTold$Asker", "fitting", "I", false)
  | _ => ("ClocksTold$Asker", "least", "I", false)
def tyX1 : Nat → FieldType := fun k => match k with
  | 0 => .object "ClocksTold$Shop"
  | 1 => .object "ClocksTold$Course"
  | 2 => .int
  | _ => .int
abbrev wsX10 : List Cond := u_ws RX1 TX1 4
theorem nmX1 : ∀ a, a < 4 → ∀ b, b < 4 → a ≠ b → (TX1 a).2.1 ≠ (TX1 b).2.1 := by decide +kernel
theorem tyX1_ok : ∀ k, k < 4 → parseFieldDescriptor (TX1 k).2.2.1 = some (tyX1 k) := by decide +kernel
abbrev cX1_init : ByteArray := prog_3_method_1_code
def yX1_init : MethodName := ⟨RX1, "<init>", "(LClocksTold$Shop;)V"⟩
abbrev cX1_begin : ByteArray := prog_3_method_2_code
def yX1_begin : MethodName := ⟨RX1, "begin", "()V"⟩
abbrev cX1_tellOften : ByteArray := prog_3_method_3_code
def yX1_tellOften : MethodName := ⟨RX1, "tellOften", "(II)V"⟩
abbrev cX1_behind : ByteArray := prog_3_method_4_code
def yX1_behind : MethodName := ⟨RX1, "behind", "(III)I"⟩
abbrev cX1_whole : ByteArray := prog_3_method_5_code
def yX1_whole : MethodName := ⟨RX1, "whole", "(I)I"⟩
abbrev cX1_minded : ByteArray := prog_3_method_6_code
def yX1_minded : MethodName := ⟨RX1, "minded", "(I)I"⟩
abbrev cX1_bestNext : ByteArray := prog_3_method_7_code
def yX1_bestNext : MethodName := ⟨RX1, "bestNext", "()I"⟩
abbrev cX1_howManyUpBehind : ByteArray := prog_3_method_8_code
def yX1_howManyUpBehind : MethodName := ⟨RX1, "howManyUpBehind", "(I)I"⟩
abbrev cX1_monthEnds : ByteArray := prog_3_method_9_code
def yX1_monthEnds : MethodName := ⟨RX1, "monthEnds", "(I)I"⟩
abbrev cX1_weighDays : ByteArray := prog_3_method_10_code
def yX1_weighDays : MethodName := ⟨RX1, "weighDays", "(I)V"⟩
abbrev cX1_weighValues : ByteArray := prog_3_method_11_code
def yX1_weighValues : MethodName := ⟨RX1, "weighValues", "(I)V"⟩
abbrev cX1_weighNothing : ByteArray := prog_3_method_12_code
def yX1_weighNothing : MethodName := ⟨RX1, "weighNothing", "()V"⟩
abbrev cX1_weigh : ByteArray := prog_3_method_13_code
def yX1_weigh : MethodName := ⟨RX1, "weigh", "(III)V"⟩
abbrev cX1_isSo : ByteArray := prog_3_method_14_code
def yX1_isSo : MethodName := ⟨RX1, "isSo", "(III)Z"⟩
def RX2 : String := "ClocksTold$Bench"
def TX2 : u_T := fun k => match k with
  | 0 => ("ClocksTold$Bench", "pace", "I", false)
  | 1 => ("ClocksTold$Bench", "clauses", "I", false)
  | 2 => ("ClocksTold$Bench", "weights", "[I", true)
  | 3 => ("ClocksTold$Bench", "ends", "[I", true)
  | 4 => ("ClocksTold$Bench", "stepCount", "I", false)
  | _ => ("ClocksTold$Bench", "steps", "[I", true)
def tyX2 : Nat → FieldType := fun k => match k with
  | 0 => .int
  | 1 => .int
  | 2 => .array .int
  | 3 => .array .int
  | 4 => .int
  | _ => .array .int
abbrev wsX20 : List Cond := u_ws RX2 TX2 6
theorem nmX2 : ∀ a, a < 6 → ∀ b, b < 6 → a ≠ b → (TX2 a).2.1 ≠ (TX2 b).2.1 := by decide +kernel
theorem tyX2_ok : ∀ k, k < 6 → parseFieldDescriptor (TX2 k).2.2.1 = some (tyX2 k) := by decide +kernel
abbrev cX2_init : ByteArray := prog_4_method_1_code
def yX2_init : MethodName := ⟨RX2, "<init>", "()V"⟩
abbrev cX2_clear : ByteArray := prog_4_method_2_code
def yX2_clear : MethodName := ⟨RX2, "clear", "()V"⟩
abbrev cX2_addStep : ByteArray := prog_4_method_3_code
def yX2_addStep : MethodName := ⟨RX2, "addStep", "(I)V"⟩
abbrev cX2_addClause : ByteArray := prog_4_method_4_code
def yX2_addClause : MethodName := ⟨RX2, "addClause", "(I)V"⟩
abbrev cX2_newsBy : ByteArray := prog_4_method_5_code
def yX2_newsBy : MethodName := ⟨RX2, "newsBy", "([I)I"⟩
abbrev cX2_isTrue : ByteArray := prog_4_method_6_code
def yX2_isTrue : MethodName := ⟨RX2, "isTrue", "(II[I)Z"⟩
abbrev cX2_testStep : ByteArray := prog_4_method_7_code
def yX2_testStep : MethodName := ⟨RX2, "testStep", "(III)I"⟩
abbrev cX2_passes : ByteArray := prog_4_method_8_code
def yX2_passes : MethodName := ⟨RX2, "passes", "(I[I)Z"⟩
def RX3 : String := "ClocksTold$Course"
def TX3 : u_T := fun k => match k with
  | 0 => ("ClocksTold$Course", "today", "I", false)
  | 1 => ("ClocksTold$Course", "heard", "[I", true)
  | _ => ("ClocksTold$Course", "balks", "[Z", true)
def tyX3 : Nat → FieldType := fun k => match k with
  | 0 => .int
  | 1 => .array .int
  | _ => .array .boolean
abbrev wsX30 : List Cond := u_ws RX3 TX3 3
theorem nmX3 : ∀ a, a < 3 → ∀ b, b < 3 → a ≠ b → (TX3 a).2.1 ≠ (TX3 b).2.1 := by decide +kernel
theorem tyX3_ok : ∀ k, k < 3 → parseFieldDescriptor (TX3 k).2.2.1 = some (tyX3 k) := by decide +kernel
abbrev cX3_init : ByteArray := prog_5_method_1_code
def yX3_init : MethodName := ⟨RX3, "<init>", "()V"⟩
abbrev cX3_copyFrom : ByteArray := prog_5_method_2_code
def yX3_copyFrom : MethodName := ⟨RX3, "copyFrom", "(LClocksTold$Course;)V"⟩
abbrev cX3_isUp : ByteArray := prog_5_method_3_code
def yX3_isUp : MethodName := ⟨RX3, "isUp", "(I)Z"⟩
def RX4 : String := "ClocksTold$Planner"
def TX4 : u_T := fun k => match k with
  | 0 => ("ClocksTold$Planner", "shop", "LClocksTold$Shop;", true)
  | 1 => ("ClocksTold$Planner", "courses", "[LClocksTold$Course;", true)
  | 2 => ("ClocksTold$Planner", "row", "[I", true)
  | 3 => ("ClocksTold$Planner", "bestRow", "[I", true)
  | _ => ("ClocksTold$Planner", "best", "I", false)
def tyX4 : Nat → FieldType := fun k => match k with
  | 0 => .object "ClocksTold$Shop"
  | 1 => .array (.object "ClocksTold$Course")
  | 2 => .array .int
  | 3 => .array .int
  | _ => .int
abbrev wsX40 : List Cond := u_ws RX4 TX4 5
theorem nmX4 : ∀ a, a < 5 → ∀ b, b < 5 → a ≠ b → (TX4 a).2.1 ≠ (TX4 b).2.1 := by decide +kernel
theorem tyX4_ok : ∀ k, k < 5 → parseFieldDescriptor (TX4 k).2.2.1 = some (tyX4 k) := by decide +kernel
abbrev cX4_init : ByteArray := prog_6_method_1_code
def yX4_init : MethodName := ⟨RX4, "<init>", "(LClocksTold$Shop;)V"⟩
abbrev cX4_findOrder : ByteArray := prog_6_method_2_code
def yX4_findOrder : MethodName := ⟨RX4, "findOrder", "()V"⟩
abbrev cX4_tryOrders : ByteArray := prog_6_method_3_code
def yX4_tryOrders : MethodName := ⟨RX4, "tryOrders", "(III)V"⟩
abbrev cX4_turn : ByteArray := prog_6_method_4_code
def yX4_turn : MethodName := ⟨RX4, "turn", "(LClocksTold$Course;I)I"⟩
abbrev cX4_findRow : ByteArray := prog_6_method_5_code
def yX4_findRow : MethodName := ⟨RX4, "findRow", "(I)V"⟩
abbrev cX4_tryRows : ByteArray := prog_6_method_6_code
def yX4_tryRows : MethodName := ⟨RX4, "tryRows", "(II)V"⟩
abbrev cX4_keep : ByteArray := prog_6_method_7_code
def yX4_keep : MethodName := ⟨RX4, "keep", "(I)V"⟩
def RX5 : String := "ClocksTold$Reader"
def TX5 : u_T := fun k => match k with
  | 0 => ("ClocksTold$Reader", "text", "[B", true)
  | 1 => ("ClocksTold$Reader", "length", "I", false)
  | 2 => ("ClocksTold$Reader", "place", "I", false)
  | 3 => ("ClocksTold$Reader", "sign", "I", false)
  | 4 => ("ClocksTold$Reader", "failed", "Z", false)
  | _ => ("ClocksTold$Reader", "bench", "LClocksTold$Bench;", false)
def tyX5 : Nat → FieldType := fun k => match k with
  | 0 => .array .byte
  | 1 => .int
  | 2 => .int
  | 3 => .int
  | 4 => .boolean
  | _ => .object "ClocksTold$Bench"
abbrev wsX50 : List Cond := u_ws RX5 TX5 6
theorem nmX5 : ∀ a, a < 6 → ∀ b, b < 6 → a ≠ b → (TX5 a).2.1 ≠ (TX5 b).2.1 := by decide +kernel
theorem tyX5_ok : ∀ k, k < 6 → parseFieldDescriptor (TX5 k).2.2.1 = some (tyX5 k) := by decide +kernel
abbrev cX5_init : ByteArray := prog_7_method_1_code
def yX5_init : MethodName := ⟨RX5, "<init>", "()V"⟩
abbrev cX5_take : ByteArray := prog_7_method_2_code
def yX5_take : MethodName := ⟨RX5, "take", "(B)Z"⟩
abbrev cX5_readInto : ByteArray := prog_7_method_3_code
def yX5_readInto : MethodName := ⟨RX5, "readInto", "(LClocksTold$Bench;)Z"⟩
abbrev cX5_step : ByteArray := prog_7_method_4_code
def yX5_step : MethodName := ⟨RX5, "step", "()V"⟩
abbrev cX5_need : ByteArray := prog_7_method_5_code
def yX5_need : MethodName := ⟨RX5, "need", "(C)V"⟩
abbrev cX5_word : ByteArray := prog_7_method_6_code
def yX5_word : MethodName := ⟨RX5, "word", "(Ljava/lang/String;)V"⟩
abbrev cX5_clause : ByteArray := prog_7_method_7_code
def yX5_clause : MethodName := ⟨RX5, "clause", "()V"⟩
abbrev cX5_number : ByteArray := prog_7_method_8_code
def yX5_number : MethodName := ⟨RX5, "number", "()I"⟩
abbrev cX5_isDigit : ByteArray := prog_7_method_9_code
def yX5_isDigit : MethodName := ⟨RX5, "isDigit", "()Z"⟩
abbrev cX5_either : ByteArray := prog_7_method_10_code
def yX5_either : MethodName := ⟨RX5, "either", "(I)V"⟩
abbrev cX5_both : ByteArray := prog_7_method_11_code
def yX5_both : MethodName := ⟨RX5, "both", "(I)V"⟩
abbrev cX5_factor : ByteArray := prog_7_method_12_code
def yX5_factor : MethodName := ⟨RX5, "factor", "(I)V"⟩
abbrev cX5_choice : ByteArray := prog_7_method_13_code
def yX5_choice : MethodName := ⟨RX5, "choice", "(Ljava/lang/String;)I"⟩
def RX6 : String := "ClocksTold$Rows"
def TX6 : u_T := fun k => match k with
  | 0 => ("ClocksTold$Rows", "limit", "I", true)
  | 1 => ("ClocksTold$Rows", "cells", "[I", true)
  | _ => ("ClocksTold$Rows", "count", "I", false)
def tyX6 : Nat → FieldType := fun k => match k with
  | 0 => .int
  | 1 => .array .int
  | _ => .int
abbrev wsX60 : List Cond := u_ws RX6 TX6 3
theorem nmX6 : ∀ a, a < 3 → ∀ b, b < 3 → a ≠ b → (TX6 a).2.1 ≠ (TX6 b).2.1 := by decide +kernel
theorem tyX6_ok : ∀ k, k < 3 → parseFieldDescriptor (TX6 k).2.2.1 = some (tyX6 k) := by decide +kernel
abbrev cX6_init : ByteArray := prog_8_method_1_code
def yX6_init : MethodName := ⟨RX6, "<init>", "(I)V"⟩
abbrev cX6_empty : ByteArray := prog_8_method_2_code
def yX6_empty : MethodName := ⟨RX6, "empty", "()I"⟩
abbrev cX6_put : ByteArray := prog_8_method_3_code
def yX6_put : MethodName := ⟨RX6, "put", "(III)I"⟩
abbrev cX6_cell : ByteArray := prog_8_method_4_code
def yX6_cell : MethodName := ⟨RX6, "cell", "(II)I"⟩
abbrev cX6_copyFrom : ByteArray := prog_8_method_5_code
def yX6_copyFrom : MethodName := ⟨RX6, "copyFrom", "(LClocksTold$Rows;)V"⟩
def RX7 : String := "ClocksTold$Shop"
def TX7 : u_T := fun k => match k with
  | 0 => ("ClocksTold$Shop", "clocks", "I", false)
  | 1 => ("ClocksTold$Shop", "kinds", "[I", true)
  | 2 => ("ClocksTold$Shop", "values", "[I", true)
  | 3 => ("ClocksTold$Shop", "rows", "[I", true)
  | 4 => ("ClocksTold$Shop", "sums", "[I", true)
  | 5 => ("ClocksTold$Shop", "now", "LClocksTold$Course;", true)
  | 6 => ("ClocksTold$Shop", "seen", "LClocksTold$Rows;", true)
  | 7 => ("ClocksTold$Shop", "month", "LClocksTold$Rows;", true)
  | 8 => ("ClocksTold$Shop", "book", "LClocksTold$Rows;", true)
  | 9 => ("ClocksTold$Shop", "worth", "[I", true)
  | _ => ("ClocksTold$Shop", "bench", "LClocksTold$Bench;", false)
def tyX7 : Nat → FieldType := fun k => match k with
  | 0 => .int
  | 1 => .array .int
  | 2 => .array .int
  | 3 => .array .int
  | 4 => .array .int
  | 5 => .object "ClocksTold$Course"
  | 6 => .object "ClocksTold$Rows"
  | 7 => .object "ClocksTold$Rows"
  | 8 => .object "ClocksTold$Rows"
  | 9 => .array .int
  | _ => .object "ClocksTold$Bench"
abbrev wsX70 : List Cond := u_ws RX7 TX7 11
theorem nmX7 : ∀ a, a < 11 → ∀ b, b < 11 → a ≠ b → (TX7 a).2.1 ≠ (TX7 b).2.1 := by decide +kernel
theorem tyX7_ok : ∀ k, k < 11 → parseFieldDescriptor (TX7 k).2.2.1 = some (tyX7 k) := by decide +kernel
abbrev cX7_init : ByteArray := prog_9_method_1_code
def yX7_init : MethodName := ⟨RX7, "<init>", "()V"⟩
abbrev cX7_copyFrom : ByteArray := prog_9_method_2_code
def yX7_copyFrom : MethodName := ⟨RX7, "copyFrom", "(LClocksTold$Shop;)V"⟩
abbrev cX7_enter : ByteArray := prog_9_method_3_code
def yX7_enter : MethodName := ⟨RX7, "enter", "(III)I"⟩
abbrev cX7_hold : ByteArray := prog_9_method_4_code
def yX7_hold : MethodName := ⟨RX7, "hold", "(LClocksTold$Bench;)V"⟩
abbrev cX7_pace : ByteArray := prog_9_method_5_code
def yX7_pace : MethodName := ⟨RX7, "pace", "()I"⟩
abbrev cX7_learn : ByteArray := prog_9_method_6_code
def yX7_learn : MethodName := ⟨RX7, "learn", "(I)V"⟩
abbrev cX7_newsOf : ByteArray := prog_9_method_7_code
def yX7_newsOf : MethodName := ⟨RX7, "newsOf", "(II)I"⟩
abbrev cX7_newsAhead : ByteArray := prog_9_method_8_code
def yX7_newsAhead : MethodName := ⟨RX7, "newsAhead", "(II)I"⟩
abbrev cX7_leftOf : ByteArray := prog_9_method_9_code
def yX7_leftOf : MethodName := ⟨RX7, "leftOf", "(LClocksTold$Course;I)I"⟩
abbrev cX7_leftOfAll : ByteArray := prog_9_method_10_code
def yX7_leftOfAll : MethodName := ⟨RX7, "leftOfAll", "(LClocksTold$Course;)I"⟩
abbrev cX7_howManyUp : ByteArray := prog_9_method_11_code
def yX7_howManyUp : MethodName := ⟨RX7, "howManyUp", "(LClocksTold$Course;)I"⟩
abbrev cX7_holds : ByteArray := prog_9_method_12_code
def yX7_holds : MethodName := ⟨RX7, "holds", "(II)I"⟩
abbrev cX7_minds : ByteArray := prog_9_method_13_code
def yX7_minds : MethodName := ⟨RX7, "minds", "(II)Z"⟩
abbrev cX7_evening : ByteArray := prog_9_method_14_code
def yX7_evening : MethodName := ⟨RX7, "evening", "(LClocksTold$Course;I)I"⟩
abbrev cX7_night : ByteArray := prog_9_method_15_code
def yX7_night : MethodName := ⟨RX7, "night", "(LClocksTold$Course;)V"⟩
def RX8 : String := "ClocksTold$Tape"
def TX8 : u_T := fun k => match k with
  | 0 => ("ClocksTold$Tape", "sort", "I", false)
  | 1 => ("ClocksTold$Tape", "length", "I", false)
  | _ => ("ClocksTold$Tape", "items", "[J", true)
def tyX8 : Nat → FieldType := fun k => match k with
  | 0 => .int
  | 1 => .int
  | _ => .array .long
abbrev wsX80 : List Cond := u_ws RX8 TX8 3
theorem nmX8 : ∀ a, a < 3 → ∀ b, b < 3 → a ≠ b → (TX8 a).2.1 ≠ (TX8 b).2.1 := by decide +kernel
theorem tyX8_ok : ∀ k, k < 3 → parseFieldDescriptor (TX8 k).2.2.1 = some (tyX8 k) := by decide +kernel
abbrev cX8_init : ByteArray := prog_10_method_1_code
def yX8_init : MethodName := ⟨RX8, "<init>", "()V"⟩
abbrev cX8_become : ByteArray := prog_10_method_2_code
def yX8_become : MethodName := ⟨RX8, "become", "(II)V"⟩
abbrev cX8_has : ByteArray := prog_10_method_3_code
def yX8_has : MethodName := ⟨RX8, "has", "(I)Z"⟩
abbrev cX8_hasRun : ByteArray := prog_10_method_4_code
def yX8_hasRun : MethodName := ⟨RX8, "hasRun", "(II)Z"⟩
abbrev cX8_cut : ByteArray := prog_10_method_5_code
def yX8_cut : MethodName := ⟨RX8, "cut", "(J)J"⟩
def RX9 : String := "ClocksTold"
def TX9 : u_T := fun k => match k with
  | 0 => ("ClocksTold", "shop", "LClocksTold$Shop;", true)
  | 1 => ("ClocksTold", "image", "LClocksTold$Shop;", true)
  | 2 => ("ClocksTold", "imaged", "Z", false)
  | 3 => ("ClocksTold", "reader", "LClocksTold$Reader;", true)
  | 4 => ("ClocksTold", "benches", "[LClocksTold$Bench;", true)
  | 5 => ("ClocksTold", "benchCount", "I", false)
  | 6 => ("ClocksTold", "asker", "LClocksTold$Asker;", true)
  | 7 => ("ClocksTold", "planner", "LClocksTold$Planner;", true)
  | 8 => ("ClocksTold", "acts", "LClocksTold$Acts;", true)
  | _ => ("ClocksTold", "tapes", "[LClocksTold$Tape;", true)
def tyX9 : Nat → FieldType := fun k => match k with
  | 0 => .object "ClocksTold$Shop"
  | 1 => .object "ClocksTold$Shop"
  | 2 => .boolean
  | 3 => .object "ClocksTold$Reader"
  | 4 => .array (.object "ClocksTold$Bench")
  | 5 => .int
  | 6 => .object "ClocksTold$Asker"
  | 7 => .object "ClocksTold$Planner"
  | 8 => .object "ClocksTold$Acts"
  | _ => .array (.object "ClocksTold$Tape")
abbrev wsX90 : List Cond := u_ws RX9 TX9 10
theorem nmX9 : ∀ a, a < 10 → ∀ b, b < 10 → a ≠ b → (TX9 a).2.1 ≠ (TX9 b).2.1 := by decide +kernel
theorem tyX9_ok : ∀ k, k < 10 → parseFieldDescriptor (TX9 k).2.2.1 = some (tyX9 k) := by decide +kernel
abbrev cX9_init : ByteArray := prog_1_method_1_code
def yX9_init : MethodName := ⟨RX9, "<init>", "()V"⟩
abbrev cX9_clock : ByteArray := prog_1_method_2_code
def yX9_clock : MethodName := ⟨RX9, "clock", "(III)I"⟩
abbrev cX9_of : ByteArray := prog_1_method_3_code
def yX9_of : MethodName := ⟨RX9, "of", "(II)I"⟩
abbrev cX9_news : ByteArray := prog_1_method_4_code
def yX9_news : MethodName := ⟨RX9, "news", "(II)I"⟩
abbrev cX9_set : ByteArray := prog_1_method_5_code
def yX9_set : MethodName := ⟨RX9, "set", "(II)I"⟩
abbrev cX9_balk : ByteArray := prog_1_method_6_code
def yX9_balk : MethodName := ⟨RX9, "balk", "(IZ)I"⟩
abbrev cX9_row : ByteArray := prog_1_method_7_code
def yX9_row : MethodName := ⟨RX9, "row", "(III)I"⟩
abbrev cX9_feed : ByteArray := prog_1_method_8_code
def yX9_feed : MethodName := ⟨RX9, "feed", "(I)I"⟩
abbrev cX9_bench : ByteArray := prog_1_method_9_code
def yX9_bench : MethodName := ⟨RX9, "bench", "()I"⟩
abbrev cX9_told : ByteArray := prog_1_method_10_code
def yX9_told : MethodName := ⟨RX9, "told", "(I)I"⟩
abbrev cX9_tell : ByteArray := prog_1_method_11_code
def yX9_tell : MethodName := ⟨RX9, "tell", "(I)I"⟩
abbrev cX9_pass : ByteArray := prog_1_method_12_code
def yX9_pass : MethodName := ⟨RX9, "pass", "(I)I"⟩
abbrev cX9_on : ByteArray := prog_1_method_13_code
def yX9_on : MethodName := ⟨RX9, "on", "(III)I"⟩
abbrev cX9_soonest : ByteArray := prog_1_method_14_code
def yX9_soonest : MethodName := ⟨RX9, "soonest", "(I)I"⟩
abbrev cX9_most : ByteArray := prog_1_method_15_code
def yX9_most : MethodName := ⟨RX9, "most", "(II)I"⟩
abbrev cX9_next : ByteArray := prog_1_method_16_code
def yX9_next : MethodName := ⟨RX9, "next", "()I"⟩
abbrev cX9_see : ByteArray := prog_1_method_17_code
def yX9_see : MethodName := ⟨RX9, "see", "(III)I"⟩
abbrev cX9_since : ByteArray := prog_1_method_18_code
def yX9_since : MethodName := ⟨RX9, "since", "(II)I"⟩
abbrev cX9_can : ByteArray := prog_1_method_19_code
def yX9_can : MethodName := ⟨RX9, "can", "(II)I"⟩
abbrev cX9_odds : ByteArray := prog_1_method_20_code
def yX9_odds : MethodName := ⟨RX9, "odds", "(II)J"⟩
abbrev cX9_mean : ByteArray := prog_1_method_21_code
def yX9_mean : MethodName := ⟨RX9, "mean", "(I)J"⟩
abbrev cX9_month : ByteArray := prog_1_method_22_code
def yX9_month : MethodName := ⟨RX9, "month", "(I)I"⟩
abbrev cX9_ends : ByteArray := prog_1_method_23_code
def yX9_ends : MethodName := ⟨RX9, "ends", "(I)I"⟩
abbrev cX9_book : ByteArray := prog_1_method_24_code
def yX9_book : MethodName := ⟨RX9, "book", "(II)I"⟩
abbrev cX9_looked : ByteArray := prog_1_method_25_code
def yX9_looked : MethodName := ⟨RX9, "looked", "()I"⟩
abbrev cX9_judge : ByteArray := prog_1_method_26_code
def yX9_judge : MethodName := ⟨RX9, "judge", "(II)I"⟩
abbrev cX9_image : ByteArray := prog_1_method_27_code
def yX9_image : MethodName := ⟨RX9, "image", "()I"⟩
abbrev cX9_undo : ByteArray := prog_1_method_28_code
def yX9_undo : MethodName := ⟨RX9, "undo", "()I"⟩
abbrev cX9_act : ByteArray := prog_1_method_29_code
def yX9_act : MethodName := ⟨RX9, "act", "(III)I"⟩
abbrev cX9_trace : ByteArray := prog_1_method_30_code
def yX9_trace : MethodName := ⟨RX9, "trace", "(I)I"⟩
abbrev cX9_taken : ByteArray := prog_1_method_31_code
def yX9_taken : MethodName := ⟨RX9, "taken", "(II)I"⟩
abbrev cX9_count : ByteArray := prog_1_method_32_code
def yX9_count : MethodName := ⟨RX9, "count", "(I)I"⟩
abbrev cX9_tape : ByteArray := prog_1_method_33_code
def yX9_tape : MethodName := ⟨RX9, "tape", "(III)I"⟩
abbrev cX9_item : ByteArray := prog_1_method_34_code
def yX9_item : MethodName := ⟨RX9, "item", "(IIJ)I"⟩
abbrev cX9_read : ByteArray := prog_1_method_35_code
def yX9_read : MethodName := ⟨RX9, "read", "(II)J"⟩
abbrev cX9_shift : ByteArray := prog_1_method_36_code
def yX9_shift : MethodName := ⟨RX9, "shift", "(IIIII)I"⟩
abbrev cX9_isClock : ByteArray := prog_1_method_37_code
def yX9_isClock : MethodName := ⟨RX9, "isClock", "(I)Z"⟩
abbrev cX9_isTape : ByteArray := prog_1_method_38_code
def yX9_isTape : MethodName := ⟨RX9, "isTape", "(I)Z"⟩
abbrev cX9_within : ByteArray := prog_1_method_39_code
def yX9_within : MethodName := ⟨RX9, "within", "(III)Z"⟩
abbrev cX9_isUnder : ByteArray := prog_1_method_40_code
def yX9_isUnder : MethodName := ⟨RX9, "isUnder", "(II)Z"⟩
abbrev cX9_lowest : ByteArray := prog_1_method_41_code
def yX9_lowest : MethodName := ⟨RX9, "lowest", "(III)J"⟩
abbrev cX9_commonDivisor : ByteArray := prog_1_method_42_code
def yX9_commonDivisor : MethodName := ⟨RX9, "commonDivisor", "(II)I"⟩
def RX10 : String := "ClocksToldModel"
def TX10 : u_T := fun k => match k with
  | 0 => ("ClocksToldModel", "clocks", "I", false)
  | 1 => ("ClocksToldModel", "balked", "I", false)
  | 2 => ("ClocksToldModel", "today", "I", false)
  | 3 => ("ClocksToldModel", "kind", "[I", true)
  | 4 => ("ClocksToldModel", "v", "[I", true)
  | 5 => ("ClocksToldModel", "heard", "[I", true)
  | 6 => ("ClocksToldModel", "rows", "[I", true)
  | 7 => ("ClocksToldModel", "benches", "I", false)
  | 8 => ("ClocksToldModel", "the", "I", false)
  | 9 => ("ClocksToldModel", "fed", "I", false)
  | 10 => ("ClocksToldModel", "at", "I", false)
  | 11 => ("ClocksToldModel", "digits", "I", false)
  | 12 => ("ClocksToldModel", "text", "[I", true)
  | 13 => ("ClocksToldModel", "clauses", "[I", true)
  | 14 => ("ClocksToldModel", "word", "[I", true)
  | 15 => ("ClocksToldModel", "number", "[I", true)
  | 16 => ("ClocksToldModel", "from", "[I", true)
  | 17 => ("ClocksToldModel", "to", "[I", true)
  | 18 => ("ClocksToldModel", "sign", "[I", true)
  | 19 => ("ClocksToldModel", "waits", "[I", true)
  | 20 => ("ClocksToldModel", "signs", "I", false)
  | 21 => ("ClocksToldModel", "waiting", "I", false)
  | 22 => ("ClocksToldModel", "open", "I", false)
  | 23 => ("ClocksToldModel", "letters", "[I", true)
  | 24 => ("ClocksToldModel", "pile", "[Z", true)
  | 25 => ("ClocksToldModel", "isLaid", "Z", false)
  | 26 => ("ClocksToldModel", "laid", "[I", true)
  | 27 => ("ClocksToldModel", "laidFrom", "[I", true)
  | 28 => ("ClocksToldModel", "keptBalked", "I", false)
  | 29 => ("ClocksToldModel", "keptToday", "I", false)
  | 30 => ("ClocksToldModel", "keptHeard", "[I", true)
  | 31 => ("ClocksToldModel", "turn", "[I", true)
  | 32 => ("ClocksToldModel", "bestTurn", "[I", true)
  | 33 => ("ClocksToldModel", "seen", "I", false)
  | 34 => ("ClocksToldModel", "seenWho", "[I", true)
  | 35 => ("ClocksToldModel", "seenMore", "[I", true)
  | 36 => ("ClocksToldModel", "seenWhen", "[I", true)
  | 37 => ("ClocksToldModel", "months", "I", false)
  | 38 => ("ClocksToldModel", "books", "I", false)
  | 39 => ("ClocksToldModel", "monthWho", "[I", true)
  | 40 => ("ClocksToldModel", "bookWho", "[I", true)
  | 41 => ("ClocksToldModel", "bookHeard", "[I", true)
  | 42 => ("ClocksToldModel", "hasImage", "Z", false)
  | 43 => ("ClocksToldModel", "imageThe", "I", false)
  | 44 => ("ClocksToldModel", "imageClocks", "I", false)
  | 45 => ("ClocksToldModel", "imageBalked", "I", false)
  | 46 => ("ClocksToldModel", "imageToday", "I", false)
  | 47 => ("ClocksToldModel", "imageSeen", "I", false)
  | 48 => ("ClocksToldModel", "imageMonths", "I", false)
  | 49 => ("ClocksToldModel", "imageBooks", "I", false)
  | 50 => ("ClocksToldModel", "imageKind", "[I", true)
  | 51 => ("ClocksToldModel", "imageV", "[I", true)
  | 52 => ("ClocksToldModel", "imageHeard", "[I", true)
  | 53 => ("ClocksToldModel", "imageRows", "[I", true)
  | 54 => ("ClocksToldModel", "imageSeenWho", "[I", true)
  | 55 => ("ClocksToldModel", "imageMore", "[I", true)
  | 56 => ("ClocksToldModel", "imageWhen", "[I", true)
  | 57 => ("ClocksToldModel", "imageWho", "[I", true)
  | 58 => ("ClocksToldModel", "imageBookWho", "[I", true)
  | 59 => ("ClocksToldModel", "imageBookHeard", "[I", true)
  | 60 => ("ClocksToldModel", "ran", "I", false)
  | 61 => ("ClocksToldModel", "bodies", "[I", true)
  | 62 => ("ClocksToldModel", "sort", "[I", true)
  | 63 => ("ClocksToldModel", "length", "[I", true)
  | 64 => ("ClocksToldModel", "item", "[J", true)
  | _ => ("ClocksToldModel", "aside", "[J", true)
def tyX10 : Nat → FieldType := fun k => match k with
  | 0 => .int
  | 1 => .int
  | 2 => .int
  | 3 => .array .int
  | 4 => .array .int
  | 5 => .array .int
  | 6 => .array .int
  | 7 => .int
  | 8 => .int
  | 9 => .int
  | 10 => .int
  | 11 => .int
  | 12 => .array .int
  | 13 => .array .int
  | 14 => .array .int
  | 15 => .array .int
  | 16 => .array .int
  | 17 => .array .int
  | 18 => .array .int
  | 19 => .array .int
  | 20 => .int
  | 21 => .int
  | 22 => .int
  | 23 => .array .int
  | 24 => .array .boolean
  | 25 => .boolean
  | 26 => .array .int
  | 27 => .array .int
  | 28 => .int
  | 29 => .int
  | 30 => .array .int
  | 31 => .array .int
  | 32 => .array .int
  | 33 => .int
  | 34 => .array .int
  | 35 => .array .int
  | 36 => .array .int
  | 37 => .int
  | 38 => .int
  | 39 => .array .int
  | 40 => .array .int
  | 41 => .array .int
  | 42 => .boolean
  | 43 => .int
  | 44 => .int
  | 45 => .int
  | 46 => .int
  | 47 => .int
  | 48 => .int
  | 49 => .int
  | 50 => .array .int
  | 51 => .array .int
  | 52 => .array .int
  | 53 => .array .int
  | 54 => .array .int
  | 55 => .array .int
  | 56 => .array .int
  | 57 => .array .int
  | 58 => .array .int
  | 59 => .array .int
  | 60 => .int
  | 61 => .array .int
  | 62 => .array .int
  | 63 => .array .int
  | 64 => .array .long
  | _ => .array .long
abbrev wsX100 : List Cond := u_ws RX10 TX10 66
theorem nmX10 : ∀ a, a < 66 → ∀ b, b < 66 → a ≠ b → (TX10 a).2.1 ≠ (TX10 b).2.1 := by decide +kernel
theorem tyX10_ok : ∀ k, k < 66 → parseFieldDescriptor (TX10 k).2.2.1 = some (tyX10 k) := by decide +kernel
abbrev cX10_init : ByteArray := prog_12_method_1_code
def yX10_init : MethodName := ⟨RX10, "<init>", "()V"⟩
abbrev cX10_in : ByteArray := prog_12_method_2_code
def yX10_in : MethodName := ⟨RX10, "in", "(III)Z"⟩
abbrev cX10_has : ByteArray := prog_12_method_3_code
def yX10_has : MethodName := ⟨RX10, "has", "(II)Z"⟩
abbrev cX10_isClock : ByteArray := prog_12_method_4_code
def yX10_isClock : MethodName := ⟨RX10, "isClock", "(I)Z"⟩
abbrev cX10_isEvenings : ByteArray := prog_12_method_5_code
def yX10_isEvenings : MethodName := ⟨RX10, "isEvenings", "(I)Z"⟩
abbrev cX10_isDay : ByteArray := prog_12_method_6_code
def yX10_isDay : MethodName := ⟨RX10, "isDay", "(I)Z"⟩
abbrev cX10_balks : ByteArray := prog_12_method_7_code
def yX10_balks : MethodName := ⟨RX10, "balks", "(IZ)V"⟩
abbrev cX10_clock : ByteArray := prog_12_method_8_code
def yX10_clock : MethodName := ⟨RX10, "clock", "(III)I"⟩
abbrev cX10_set : ByteArray := prog_12_method_9_code
def yX10_set : MethodName := ⟨RX10, "set", "(II)I"⟩
abbrev cX10_balk : ByteArray := prog_12_method_10_code
def yX10_balk : MethodName := ⟨RX10, "balk", "(IZ)I"⟩
abbrev cX10_row : ByteArray := prog_12_method_11_code
def yX10_row : MethodName := ⟨RX10, "row", "(III)I"⟩
abbrev cX10_feed : ByteArray := prog_12_method_12_code
def yX10_feed : MethodName := ⟨RX10, "feed", "(I)I"⟩
abbrev cX10_peek : ByteArray := prog_12_method_13_code
def yX10_peek : MethodName := ⟨RX10, "peek", "()I"⟩
abbrev cX10_takes : ByteArray := prog_12_method_14_code
def yX10_takes : MethodName := ⟨RX10, "takes", "(I)Z"⟩
abbrev cX10_takesWord : ByteArray := prog_12_method_15_code
def yX10_takesWord : MethodName := ⟨RX10, "takesWord", "(II)Z"⟩
abbrev cX10_isDigit : ByteArray := prog_12_method_16_code
def yX10_isDigit : MethodName := ⟨RX10, "isDigit", "()Z"⟩
abbrev cX10_takesNumber : ByteArray := prog_12_method_17_code
def yX10_takesNumber : MethodName := ⟨RX10, "takesNumber", "()Z"⟩
abbrev cX10_emits : ByteArray := prog_12_method_18_code
def yX10_emits : MethodName := ⟨RX10, "emits", "(I)V"⟩
abbrev cX10_whole : ByteArray := prog_12_method_19_code
def yX10_whole : MethodName := ⟨RX10, "whole", "()V"⟩
abbrev cX10_settle : ByteArray := prog_12_method_20_code
def yX10_settle : MethodName := ⟨RX10, "settle", "(I)V"⟩
abbrev cX10_place : ByteArray := prog_12_method_21_code
def yX10_place : MethodName := ⟨RX10, "place", "(I)I"⟩
abbrev cX10_takesTest : ByteArray := prog_12_method_22_code
def yX10_takesTest : MethodName := ⟨RX10, "takesTest", "()Z"⟩
abbrev cX10_takesE : ByteArray := prog_12_method_23_code
def yX10_takesE : MethodName := ⟨RX10, "takesE", "(I)Z"⟩
abbrev cX10_takesHead : ByteArray := prog_12_method_24_code
def yX10_takesHead : MethodName := ⟨RX10, "takesHead", "(I)Z"⟩
abbrev cX10_takesClause : ByteArray := prog_12_method_25_code
def yX10_takesClause : MethodName := ⟨RX10, "takesClause", "(I)Z"⟩
abbrev cX10_goesText : ByteArray := prog_12_method_26_code
def yX10_goesText : MethodName := ⟨RX10, "goesText", "(I)Z"⟩
abbrev cX10_bench : ByteArray := prog_12_method_27_code
def yX10_bench : MethodName := ⟨RX10, "bench", "()I"⟩
abbrev cX10_begin : ByteArray := prog_12_method_28_code
def yX10_begin : MethodName := ⟨RX10, "begin", "()I"⟩
abbrev cX10_behind : ByteArray := prog_12_method_29_code
def yX10_behind : MethodName := ⟨RX10, "behind", "()I"⟩
abbrev cX10_pace : ByteArray := prog_12_method_30_code
def yX10_pace : MethodName := ⟨RX10, "pace", "()I"⟩
abbrev cX10_factOf : ByteArray := prog_12_method_31_code
def yX10_factOf : MethodName := ⟨RX10, "factOf", "(III)I"⟩
abbrev cX10_holds : ByteArray := prog_12_method_32_code
def yX10_holds : MethodName := ⟨RX10, "holds", "(III)Z"⟩
abbrev cX10_newsNow : ByteArray := prog_12_method_33_code
def yX10_newsNow : MethodName := ⟨RX10, "newsNow", "(II)I"⟩
abbrev cX10_layNews : ByteArray := prog_12_method_34_code
def yX10_layNews : MethodName := ⟨RX10, "layNews", "()V"⟩
abbrev cX10_newsOf : ByteArray := prog_12_method_35_code
def yX10_newsOf : MethodName := ⟨RX10, "newsOf", "(II)I"⟩
abbrev cX10_news : ByteArray := prog_12_method_36_code
def yX10_news : MethodName := ⟨RX10, "news", "(II)I"⟩
abbrev cX10_holdsOf : ByteArray := prog_12_method_37_code
def yX10_holdsOf : MethodName := ⟨RX10, "holdsOf", "(I)I"⟩
abbrev cX10_minds : ByteArray := prog_12_method_38_code
def yX10_minds : MethodName := ⟨RX10, "minds", "(II)Z"⟩
abbrev cX10_isUp : ByteArray := prog_12_method_39_code
def yX10_isUp : MethodName := ⟨RX10, "isUp", "(I)Z"⟩
abbrev cX10_upMany : ByteArray := prog_12_method_40_code
def yX10_upMany : MethodName := ⟨RX10, "upMany", "()I"⟩
abbrev cX10_left : ByteArray := prog_12_method_41_code
def yX10_left : MethodName := ⟨RX10, "left", "(I)I"⟩
abbrev cX10_allLeft : ByteArray := prog_12_method_42_code
def yX10_allLeft : MethodName := ⟨RX10, "allLeft", "()I"⟩
abbrev cX10_minded : ByteArray := prog_12_method_43_code
def yX10_minded : MethodName := ⟨RX10, "minded", "(I)I"⟩
abbrev cX10_goNight : ByteArray := prog_12_method_44_code
def yX10_goNight : MethodName := ⟨RX10, "goNight", "()V"⟩
abbrev cX10_goEvening : ByteArray := prog_12_method_45_code
def yX10_goEvening : MethodName := ⟨RX10, "goEvening", "(I)I"⟩
abbrev cX10_tell : ByteArray := prog_12_method_46_code
def yX10_tell : MethodName := ⟨RX10, "tell", "(I)I"⟩
abbrev cX10_pass : ByteArray := prog_12_method_47_code
def yX10_pass : MethodName := ⟨RX10, "pass", "(I)I"⟩
abbrev cX10_save : ByteArray := prog_12_method_48_code
def yX10_save : MethodName := ⟨RX10, "save", "()V"⟩
abbrev cX10_putBack : ByteArray := prog_12_method_49_code
def yX10_putBack : MethodName := ⟨RX10, "putBack", "()V"⟩
abbrev cX10_whole_ : ByteArray := prog_12_method_50_code
def yX10_whole_ : MethodName := ⟨RX10, "whole", "(I)I"⟩
abbrev cX10_of : ByteArray := prog_12_method_51_code
def yX10_of : MethodName := ⟨RX10, "of", "(II)I"⟩
abbrev cX10_told : ByteArray := prog_12_method_52_code
def yX10_told : MethodName := ⟨RX10, "told", "(I)I"⟩
abbrev cX10_goEvenings : ByteArray := prog_12_method_53_code
def yX10_goEvenings : MethodName := ⟨RX10, "goEvenings", "(II)V"⟩
abbrev cX10_on : ByteArray := prog_12_method_54_code
def yX10_on : MethodName := ⟨RX10, "on", "(III)I"⟩
abbrev cX10_layTurn : ByteArray := prog_12_method_55_code
def yX10_layTurn : MethodName := ⟨RX10, "layTurn", "(I)Z"⟩
abbrev cX10_goWhole : ByteArray := prog_12_method_56_code
def yX10_goWhole : MethodName := ⟨RX10, "goWhole", "(I)I"⟩
abbrev cX10_goTurn : ByteArray := prog_12_method_57_code
def yX10_goTurn : MethodName := ⟨RX10, "goTurn", "()I"⟩
abbrev cX10_soonest : ByteArray := prog_12_method_58_code
def yX10_soonest : MethodName := ⟨RX10, "soonest", "(I)I"⟩
abbrev cX10_most : ByteArray := prog_12_method_59_code
def yX10_most : MethodName := ⟨RX10, "most", "(II)I"⟩
abbrev cX10_next : ByteArray := prog_12_method_60_code
def yX10_next : MethodName := ⟨RX10, "next", "()I"⟩
abbrev cX10_see : ByteArray := prog_12_method_61_code
def yX10_see : MethodName := ⟨RX10, "see", "(III)I"⟩
abbrev cX10_isSeen : ByteArray := prog_12_method_62_code
def yX10_isSeen : MethodName := ⟨RX10, "isSeen", "(I)Z"⟩
abbrev cX10_since : ByteArray := prog_12_method_63_code
def yX10_since : MethodName := ⟨RX10, "since", "(II)I"⟩
abbrev cX10_can : ByteArray := prog_12_method_64_code
def yX10_can : MethodName := ⟨RX10, "can", "(II)I"⟩
abbrev cX10_divisor : ByteArray := prog_12_method_65_code
def yX10_divisor : MethodName := ⟨RX10, "divisor", "(II)I"⟩
abbrev cX10_lowest : ByteArray := prog_12_method_66_code
def yX10_lowest : MethodName := ⟨RX10, "lowest", "(III)J"⟩
abbrev cX10_odds : ByteArray := prog_12_method_67_code
def yX10_odds : MethodName := ⟨RX10, "odds", "(II)J"⟩
abbrev cX10_mean : ByteArray := prog_12_method_68_code
def yX10_mean : MethodName := ⟨RX10, "mean", "(I)J"⟩
abbrev cX10_month : ByteArray := prog_12_method_69_code
def yX10_month : MethodName := ⟨RX10, "month", "(I)I"⟩
abbrev cX10_ends : ByteArray := prog_12_method_70_code
def yX10_ends : MethodName := ⟨RX10, "ends", "(I)I"⟩
abbrev cX10_book : ByteArray := prog_12_method_71_code
def yX10_book : MethodName := ⟨RX10, "book", "(II)I"⟩
abbrev cX10_looked : ByteArray := prog_12_method_72_code
def yX10_looked : MethodName := ⟨RX10, "looked", "()I"⟩
abbrev cX10_judge : ByteArray := prog_12_method_73_code
def yX10_judge : MethodName := ⟨RX10, "judge", "(II)I"⟩
abbrev cX10_image : ByteArray := prog_12_method_74_code
def yX10_image : MethodName := ⟨RX10, "image", "()I"⟩
abbrev cX10_undo : ByteArray := prog_12_method_75_code
def yX10_undo : MethodName := ⟨RX10, "undo", "()I"⟩
abbrev cX10_body : ByteArray := prog_12_method_76_code
def yX10_body : MethodName := ⟨RX10, "body", "(I)V"⟩
abbrev cX10_clockTicks : ByteArray := prog_12_method_77_code
def yX10_clockTicks : MethodName := ⟨RX10, "clockTicks", "(II)I"⟩
abbrev cX10_ticksAct : ByteArray := prog_12_method_78_code
def yX10_ticksAct : MethodName := ⟨RX10, "ticksAct", "(II)I"⟩
abbrev cX10_clockStrikes : ByteArray := prog_12_method_79_code
def yX10_clockStrikes : MethodName := ⟨RX10, "clockStrikes", "(II)I"⟩
abbrev cX10_fastStrikes : ByteArray := prog_12_method_80_code
def yX10_fastStrikes : MethodName := ⟨RX10, "fastStrikes", "(II)I"⟩
abbrev cX10_strikesAct : ByteArray := prog_12_method_81_code
def yX10_strikesAct : MethodName := ⟨RX10, "strikesAct", "(II)I"⟩
abbrev cX10_clockTells : ByteArray := prog_12_method_82_code
def yX10_clockTells : MethodName := ⟨RX10, "clockTells", "(II)I"⟩
abbrev cX10_tellsAct : ByteArray := prog_12_method_83_code
def yX10_tellsAct : MethodName := ⟨RX10, "tellsAct", "(II)I"⟩
abbrev cX10_act : ByteArray := prog_12_method_84_code
def yX10_act : MethodName := ⟨RX10, "act", "(III)I"⟩
abbrev cX10_trace : ByteArray := prog_12_method_85_code
def yX10_trace : MethodName := ⟨RX10, "trace", "(I)I"⟩
abbrev cX10_taken : ByteArray := prog_12_method_86_code
def yX10_taken : MethodName := ⟨RX10, "taken", "(II)I"⟩
abbrev cX10_count : ByteArray := prog_12_method_87_code
def yX10_count : MethodName := ⟨RX10, "count", "(I)I"⟩
abbrev cX10_isTape : ByteArray := prog_12_method_88_code
def yX10_isTape : MethodName := ⟨RX10, "isTape", "(I)Z"⟩
abbrev cX10_tape : ByteArray := prog_12_method_89_code
def yX10_tape : MethodName := ⟨RX10, "tape", "(III)I"⟩
abbrev cX10_narrow : ByteArray := prog_12_method_90_code
def yX10_narrow : MethodName := ⟨RX10, "narrow", "(IJ)J"⟩
abbrev cX10_item : ByteArray := prog_12_method_91_code
def yX10_item : MethodName := ⟨RX10, "item", "(IIJ)I"⟩
abbrev cX10_read : ByteArray := prog_12_method_92_code
def yX10_read : MethodName := ⟨RX10, "read", "(II)J"⟩
abbrev cX10_shift : ByteArray := prog_12_method_93_code
def yX10_shift : MethodName := ⟨RX10, "shift", "(IIIII)I"⟩
def RJx145de : String := "java/io/Serializable"
def TJx145de : u_T := fun k => match k with
  | _ => ("", "", "", false)
def tyJx145de : Nat → FieldType := fun k => match k with
  | _ => .int
abbrev wsJx145de0 : List Cond := u_ws RJx145de TJx145de 0
theorem nmJx145de : ∀ a, a < 0 → ∀ b, b < 0 → a ≠ b → (TJx145de a).2.1 ≠ (TJx145de b).2.1 := by decide +kernel
theorem tyJx145de_ok : ∀ k, k < 0 → parseFieldDescriptor (TJx145de k).2.2.1 = some (tyJx145de k) := by decide +kernel
def RJx9f9b0 : String := "java/lang/CharSequence"
def TJx9f9b0 : u_T := fun k => match k with
  | _ => ("", "", "", false)
def tyJx9f9b0 : Nat → FieldType := fun k => match k with
  | _ => .int
abbrev wsJx9f9b00 : List Cond := u_ws RJx9f9b0 TJx9f9b0 0
theorem nmJx9f9b0 : ∀ a, a < 0 → ∀ b, b < 0 → a ≠ b → (TJx9f9b0 a).2.1 ≠ (TJx9f9b0 b).2.1 := by decide +kernel
theorem tyJx9f9b0_ok : ∀ k, k < 0 → parseFieldDescriptor (TJx9f9b0 k).2.2.1 = some (tyJx9f9b0 k) := by decide +kernel
def RJ11 : String := "java/lang/Character"
def TJ11 : u_T := fun k => match k with
  | _ => ("", "", "", false)
def tyJ11 : Nat → FieldType := fun k => match k with
  | _ => .int
abbrev wsJ110 : List Cond := u_ws RJ11 TJ11 0
theorem nmJ11 : ∀ a, a < 0 → ∀ b, b < 0 → a ≠ b → (TJ11 a).2.1 ≠ (TJ11 b).2.1 := by decide +kernel
theorem tyJ11_ok : ∀ k, k < 0 → parseFieldDescriptor (TJ11 k).2.2.1 = some (tyJ11 k) := by decide +kernel
abbrev cJ11_isValidCodePoint_9a6ad : ByteArray := prog_13_method_11_code
def yJ11_isValidCodePoint_9a6ad : MethodName := ⟨RJ11, "isValidCodePoint", "(I)Z"⟩
abbrev cJ11_highSurrogate_5068e : ByteArray := prog_13_method_28_code
def yJ11_highSurrogate_5068e : MethodName := ⟨RJ11, "highSurrogate", "(I)C"⟩
abbrev cJ11_lowSurrogate_5068e : ByteArray := prog_13_method_29_code
def yJ11_lowSurrogate_5068e : MethodName := ⟨RJ11, "lowSurrogate", "(I)C"⟩
def RJxb160c : String := "java/lang/Comparable"
def TJxb160c : u_T := fun k => match k with
  | _ => ("", "", "", false)
def tyJxb160c : Nat → FieldType := fun k => match k with
  | _ => .int
abbrev wsJxb160c0 : List Cond := u_ws RJxb160c TJxb160c 0
theorem nmJxb160c : ∀ a, a < 0 → ∀ b, b < 0 → a ≠ b → (TJxb160c a).2.1 ≠ (TJxb160c b).2.1 := by decide +kernel
theorem tyJxb160c_ok : ∀ k, k < 0 → parseFieldDescriptor (TJxb160c k).2.2.1 = some (tyJxb160c k) := by decide +kernel
def RJ9 : String := "java/lang/Math"
def TJ9 : u_T := fun k => match k with
  | _ => ("", "", "", false)
def tyJ9 : Nat → FieldType := fun k => match k with
  | _ => .int
abbrev wsJ90 : List Cond := u_ws RJ9 TJ9 0
theorem nmJ9 : ∀ a, a < 0 → ∀ b, b < 0 → a ≠ b → (TJ9 a).2.1 ≠ (TJ9 b).2.1 := by decide +kernel
theorem tyJ9_ok : ∀ k, k < 0 → parseFieldDescriptor (TJ9 k).2.2.1 = some (tyJ9 k) := by decide +kernel
abbrev cJ9_max_7cf53 : ByteArray := prog_14_method_65_code
def yJ9_max_7cf53 : MethodName := ⟨RJ9, "max", "(II)I"⟩
abbrev cJ9_min_7cf53 : ByteArray := prog_14_method_69_code
def yJ9_min_7cf53 : MethodName := ⟨RJ9, "min", "(II)I"⟩
def RJ0 : String := "java/lang/String"
def TJ0 : u_T := fun k => match k with
  | _ => ("", "", "", false)
def tyJ0 : Nat → FieldType := fun k => match k with
  | _ => .int
abbrev wsJ00 : List Cond := u_ws RJ0 TJ0 0
theorem nmJ0 : ∀ a, a < 0 → ∀ b, b < 0 → a ≠ b → (TJ0 a).2.1 ≠ (TJ0 b).2.1 := by decide +kernel
theorem tyJ0_ok : ∀ k, k < 0 → parseFieldDescriptor (TJ0 k).2.2.1 = some (tyJ0 k) := by decide +kernel
abbrev cJ0_length_8abf5 : ByteArray := prog_15_method_54_code
def yJ0_length_8abf5 : MethodName := ⟨RJ0, "length", "()I"⟩
abbrev cJ0_charAt_5068e : ByteArray := prog_15_method_56_code
def yJ0_charAt_5068e : MethodName := ⟨RJ0, "charAt", "(I)C"⟩
abbrev cJ0_indexOf_0f7a4 : ByteArray := prog_15_method_79_code
def yJ0_indexOf_0f7a4 : MethodName := ⟨RJ0, "indexOf", "(I)I"⟩
abbrev cJ0_indexOf_7cf53 : ByteArray := prog_15_method_80_code
def yJ0_indexOf_7cf53 : MethodName := ⟨RJ0, "indexOf", "(II)I"⟩
abbrev cJ0_coder_7d493 : ByteArray := prog_15_method_152_code
def yJ0_coder_7d493 : MethodName := ⟨RJ0, "coder", "()B"⟩
abbrev cJ0_isLatin1_aae02 : ByteArray := prog_15_method_154_code
def yJ0_isLatin1_aae02 : MethodName := ⟨RJ0, "isLatin1", "()Z"⟩
abbrev cJ0_checkIndex_df160 : ByteArray := prog_15_method_155_code
def yJ0_checkIndex_df160 : MethodName := ⟨RJ0, "checkIndex", "(II)V"⟩
abbrev cJ0_checkBoundsBeginEnd_23922 : ByteArray := prog_15_method_158_code
def yJ0_checkBoundsBeginEnd_23922 : MethodName := ⟨RJ0, "checkBoundsBeginEnd", "(III)V"⟩
def RJ1 : String := "java/lang/StringLatin1"
def TJ1 : u_T := fun k => match k with
  | _ => ("", "", "", false)
def tyJ1 : Nat → FieldType := fun k => match k with
  | _ => .int
abbrev wsJ10 : List Cond := u_ws RJ1 TJ1 0
theorem nmJ1 : ∀ a, a < 0 → ∀ b, b < 0 → a ≠ b → (TJ1 a).2.1 ≠ (TJ1 b).2.1 := by decide +kernel
theorem tyJ1_ok : ∀ k, k < 0 → parseFieldDescriptor (TJ1 k).2.2.1 = some (tyJ1 k) := by decide +kernel
abbrev cJ1_charAt_3b067 : ByteArray := prog_16_method_2_code
def yJ1_charAt_3b067 : MethodName := ⟨RJ1, "charAt", "([BI)C"⟩
abbrev cJ1_canEncode_9a6ad : ByteArray := prog_16_method_4_code
def yJ1_canEncode_9a6ad : MethodName := ⟨RJ1, "canEncode", "(I)Z"⟩
abbrev cJ1_indexOf_4cfef : ByteArray := prog_16_method_22_code
def yJ1_indexOf_4cfef : MethodName := ⟨RJ1, "indexOf", "([BIII)I"⟩
abbrev cJ1_indexOfChar_4cfef : ByteArray := prog_16_method_23_code
def yJ1_indexOfChar_4cfef : MethodName := ⟨RJ1, "indexOfChar", "([BIII)I"⟩
def RJ2 : String := "java/lang/StringUTF16"
def TJ2 : u_T := fun k => match k with
  | _ => ("", "", "", false)
def tyJ2 : Nat → FieldType := fun k => match k with
  | _ => .int
abbrev wsJ20 : List Cond := u_ws RJ2 TJ2 0
theorem nmJ2 : ∀ a, a < 0 → ∀ b, b < 0 → a ≠ b → (TJ2 a).2.1 ≠ (TJ2 b).2.1 := by decide +kernel
theorem tyJ2_ok : ∀ k, k < 0 → parseFieldDescriptor (TJ2 k).2.2.1 = some (tyJ2 k) := by decide +kernel
abbrev cJ2_getChar_3b067 : ByteArray := prog_17_method_5_code
def yJ2_getChar_3b067 : MethodName := ⟨RJ2, "getChar", "([BI)C"⟩
abbrev cJ2_length_9d52b : ByteArray := prog_17_method_6_code
def yJ2_length_9d52b : MethodName := ⟨RJ2, "length", "([B)I"⟩
abbrev cJ2_indexOf_4cfef : ByteArray := prog_17_method_40_code
def yJ2_indexOf_4cfef : MethodName := ⟨RJ2, "indexOf", "([BIII)I"⟩
abbrev cJ2_indexOfChar_4cfef : ByteArray := prog_17_method_47_code
def yJ2_indexOfChar_4cfef : MethodName := ⟨RJ2, "indexOfChar", "([BIII)I"⟩
abbrev cJ2_indexOfCharUnsafe_4cfef : ByteArray := prog_17_method_48_code
def yJ2_indexOfCharUnsafe_4cfef : MethodName := ⟨RJ2, "indexOfCharUnsafe", "([BIII)I"⟩
abbrev cJ2_indexOfSupplementary_4cfef : ByteArray := prog_17_method_49_code
def yJ2_indexOfSupplementary_4cfef : MethodName := ⟨RJ2, "indexOfSupplementary", "([BIII)I"⟩
abbrev cJ2_charAt_3b067 : ByteArray := prog_17_method_83_code
def yJ2_charAt_3b067 : MethodName := ⟨RJ2, "charAt", "([BI)C"⟩
abbrev cJ2_checkIndex_2214a : ByteArray := prog_17_method_91_code
def yJ2_checkIndex_2214a : MethodName := ⟨RJ2, "checkIndex", "(I[B)V"⟩
abbrev cJ2_checkBoundsBeginEnd_d044e : ByteArray := prog_17_method_93_code
def yJ2_checkBoundsBeginEnd_d044e : MethodName := ⟨RJ2, "checkBoundsBeginEnd", "(II[B)V"⟩
def RJ10 : String := "java/lang/System"
def TJ10 : u_T := fun k => match k with
  | _ => ("", "", "", false)
def tyJ10 : Nat → FieldType := fun k => match k with
  | _ => .int
abbrev wsJ100 : List Cond := u_ws RJ10 TJ10 0
theorem nmJ10 : ∀ a, a < 0 → ∀ b, b < 0 → a ≠ b → (TJ10 a).2.1 ≠ (TJ10 b).2.1 := by decide +kernel
theorem tyJ10_ok : ∀ k, k < 0 → parseFieldDescriptor (TJ10 k).2.2.1 = some (tyJ10 k) := by decide +kernel
def RJxfd54e : String := "java/lang/constant/Constable"
def TJxfd54e : u_T := fun k => match k with
  | _ => ("", "", "", false)
def tyJxfd54e : Nat → FieldType := fun k => match k with
  | _ => .int
abbrev wsJxfd54e0 : List Cond := u_ws RJxfd54e TJxfd54e 0
theorem nmJxfd54e : ∀ a, a < 0 → ∀ b, b < 0 → a ≠ b → (TJxfd54e a).2.1 ≠ (TJxfd54e b).2.1 := by decide +kernel
theorem tyJxfd54e_ok : ∀ k, k < 0 → parseFieldDescriptor (TJxfd54e k).2.2.1 = some (tyJxfd54e k) := by decide +kernel
def RJx3cf43 : String := "java/lang/constant/ConstantDesc"
def TJx3cf43 : u_T := fun k => match k with
  | _ => ("", "", "", false)
def tyJx3cf43 : Nat → FieldType := fun k => match k with
  | _ => .int
abbrev wsJx3cf430 : List Cond := u_ws RJx3cf43 TJx3cf43 0
theorem nmJx3cf43 : ∀ a, a < 0 → ∀ b, b < 0 → a ≠ b → (TJx3cf43 a).2.1 ≠ (TJx3cf43 b).2.1 := by decide +kernel
theorem tyJx3cf43_ok : ∀ k, k < 0 → parseFieldDescriptor (TJx3cf43 k).2.2.1 = some (tyJx3cf43 k) := by decide +kernel
def RJ7 : String := "java/util/Arrays"
def TJ7 : u_T := fun k => match k with
  | _ => ("", "", "", false)
def tyJ7 : Nat → FieldType := fun k => match k with
  | _ => .int
abbrev wsJ70 : List Cond := u_ws RJ7 TJ7 0
theorem nmJ7 : ∀ a, a < 0 → ∀ b, b < 0 → a ≠ b → (TJ7 a).2.1 ≠ (TJ7 b).2.1 := by decide +kernel
theorem tyJ7_ok : ∀ k, k < 0 → parseFieldDescriptor (TJ7 k).2.2.1 = some (tyJ7 k) := by decide +kernel
abbrev cJ7_fill_d0a16 : ByteArray := prog_19_method_101_code
def yJ7_fill_d0a16 : MethodName := ⟨RJ7, "fill", "([JJ)V"⟩
def RJ3 : String := "jdk/internal/util/Preconditions"
def TJ3 : u_T := fun k => match k with
  | _ => ("", "", "", false)
def tyJ3 : Nat → FieldType := fun k => match k with
  | _ => .int
abbrev wsJ30 : List Cond := u_ws RJ3 TJ3 0
theorem nmJ3 : ∀ a, a < 0 → ∀ b, b < 0 → a ≠ b → (TJ3 a).2.1 ≠ (TJ3 b).2.1 := by decide +kernel
theorem tyJ3_ok : ∀ k, k < 0 → parseFieldDescriptor (TJ3 k).2.2.1 = some (tyJ3 k) := by decide +kernel
abbrev cJ3_checkIndex_8e157 : ByteArray := prog_20_method_11_code
def yJ3_checkIndex_8e157 : MethodName := ⟨RJ3, "checkIndex", "(IILjava/util/function/BiFunction;)I"⟩
abbrev cJ3_checkFromToIndex_8c36e : ByteArray := prog_20_method_12_code
def yJ3_checkFromToIndex_8c36e : MethodName := ⟨RJ3, "checkFromToIndex", "(IIILjava/util/function/BiFunction;)I"⟩
def RL : String := "ClocksToldLaw"
abbrev cL_law : ByteArray := code
def yL_law : MethodName := ⟨RL, "law", "([I)Z"⟩
abbrev vwCl : List vw_C := [(RX0, TX0, 5), (RX1, TX1, 4), (RX2, TX2, 6), (RX3, TX3, 3), (RX4, TX4, 5), (RX5, TX5, 6), (RX6, TX6, 3), (RX7, TX7, 11), (RX8, TX8, 3), (RX9, TX9, 10), (RX10, TX10, 66)]
