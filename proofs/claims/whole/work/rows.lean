section
-- ===== PART A: goes FIRST, ahead of the names: the tables' words, and 'selects' of the private methods out of them =====
/-- a private method of a class that the tables say can be made, by its rows of tables_1 -/
def lw_okq (q : MethodName × Nat) : Prop := (q.1.cls ≠ "java/lang/invoke/MethodHandle" ∧ q.1.cls ≠ "java/lang/invoke/VarHandle") ∧ Cond.instantiable q.1.cls q.2 ∈ tables_1 ∧ Cond.privateMethod q.1 ∈ tables_1 ∧ Cond.instanceMethod q.1 ∈ tables_1
theorem lw_p0 : lw_okq (⟨"ClocksTold$Shop", "enter", "(III)I"⟩, 11) := ⟨⟨by decide +kernel, by decide +kernel⟩, List.mem_of_getElem? (i := 29) (by decide +kernel), List.mem_of_getElem? (i := 318) (by decide +kernel), List.mem_of_getElem? (i := 319) (by decide +kernel)⟩
theorem lw_p1 : lw_okq (⟨"ClocksTold$Shop", "learn", "(I)V"⟩, 11) := ⟨⟨by decide +kernel, by decide +kernel⟩, List.mem_of_getElem? (i := 29) (by decide +kernel), List.mem_of_getElem? (i := 322) (by decide +kernel), List.mem_of_getElem? (i := 323) (by decide +kernel)⟩
theorem lw_p2 : lw_okq (⟨"ClocksTold$Bench", "newsBy", "([I)I"⟩, 6) := ⟨⟨by decide +kernel, by decide +kernel⟩, List.mem_of_getElem? (i := 235) (by decide +kernel), List.mem_of_getElem? (i := 326) (by decide +kernel), List.mem_of_getElem? (i := 327) (by decide +kernel)⟩
theorem lw_p3 : lw_okq (⟨"ClocksTold$Bench", "isTrue", "(II[I)Z"⟩, 6) := ⟨⟨by decide +kernel, by decide +kernel⟩, List.mem_of_getElem? (i := 235) (by decide +kernel), List.mem_of_getElem? (i := 330) (by decide +kernel), List.mem_of_getElem? (i := 331) (by decide +kernel)⟩
theorem lw_p4 : lw_okq (⟨"ClocksTold", "isClock", "(I)Z"⟩, 10) := ⟨⟨by decide +kernel, by decide +kernel⟩, List.mem_of_getElem? (i := 21) (by decide +kernel), List.mem_of_getElem? (i := 344) (by decide +kernel), List.mem_of_getElem? (i := 345) (by decide +kernel)⟩
theorem lw_p5 : lw_okq (⟨"ClocksTold$Shop", "leftOf", "(LClocksTold$Course;I)I"⟩, 11) := ⟨⟨by decide +kernel, by decide +kernel⟩, List.mem_of_getElem? (i := 29) (by decide +kernel), List.mem_of_getElem? (i := 348) (by decide +kernel), List.mem_of_getElem? (i := 349) (by decide +kernel)⟩
theorem lw_p6 : lw_okq (⟨"ClocksTold$Shop", "newsAhead", "(II)I"⟩, 11) := ⟨⟨by decide +kernel, by decide +kernel⟩, List.mem_of_getElem? (i := 29) (by decide +kernel), List.mem_of_getElem? (i := 352) (by decide +kernel), List.mem_of_getElem? (i := 353) (by decide +kernel)⟩
theorem lw_p7 : lw_okq (⟨"ClocksTold$Shop", "holds", "(II)I"⟩, 11) := ⟨⟨by decide +kernel, by decide +kernel⟩, List.mem_of_getElem? (i := 29) (by decide +kernel), List.mem_of_getElem? (i := 356) (by decide +kernel), List.mem_of_getElem? (i := 357) (by decide +kernel)⟩
theorem lw_p8 : lw_okq (⟨"ClocksTold$Shop", "pace", "()I"⟩, 11) := ⟨⟨by decide +kernel, by decide +kernel⟩, List.mem_of_getElem? (i := 29) (by decide +kernel), List.mem_of_getElem? (i := 360) (by decide +kernel), List.mem_of_getElem? (i := 361) (by decide +kernel)⟩
theorem lw_p9 : lw_okq (⟨"ClocksTold$Asker", "minded", "(I)I"⟩, 4) := ⟨⟨by decide +kernel, by decide +kernel⟩, List.mem_of_getElem? (i := 160) (by decide +kernel), List.mem_of_getElem? (i := 365) (by decide +kernel), List.mem_of_getElem? (i := 366) (by decide +kernel)⟩
theorem lw_p10 : lw_okq (⟨"ClocksTold$Shop", "minds", "(II)Z"⟩, 11) := ⟨⟨by decide +kernel, by decide +kernel⟩, List.mem_of_getElem? (i := 29) (by decide +kernel), List.mem_of_getElem? (i := 369) (by decide +kernel), List.mem_of_getElem? (i := 370) (by decide +kernel)⟩
theorem lw_p11 : lw_okq (⟨"ClocksTold$Shop", "newsOf", "(II)I"⟩, 11) := ⟨⟨by decide +kernel, by decide +kernel⟩, List.mem_of_getElem? (i := 29) (by decide +kernel), List.mem_of_getElem? (i := 373) (by decide +kernel), List.mem_of_getElem? (i := 374) (by decide +kernel)⟩
theorem lw_p12 : lw_okq (⟨"ClocksTold$Asker", "whole", "(I)I"⟩, 4) := ⟨⟨by decide +kernel, by decide +kernel⟩, List.mem_of_getElem? (i := 160) (by decide +kernel), List.mem_of_getElem? (i := 377) (by decide +kernel), List.mem_of_getElem? (i := 378) (by decide +kernel)⟩
theorem lw_p13 : lw_okq (⟨"ClocksTold$Asker", "begin", "()V"⟩, 4) := ⟨⟨by decide +kernel, by decide +kernel⟩, List.mem_of_getElem? (i := 160) (by decide +kernel), List.mem_of_getElem? (i := 381) (by decide +kernel), List.mem_of_getElem? (i := 382) (by decide +kernel)⟩
theorem lw_p14 : lw_okq (⟨"ClocksTold$Course", "copyFrom", "(LClocksTold$Course;)V"⟩, 3) := ⟨⟨by decide +kernel, by decide +kernel⟩, List.mem_of_getElem? (i := 35) (by decide +kernel), List.mem_of_getElem? (i := 385) (by decide +kernel), List.mem_of_getElem? (i := 386) (by decide +kernel)⟩
theorem lw_p15 : lw_okq (⟨"ClocksTold$Course", "isUp", "(I)Z"⟩, 3) := ⟨⟨by decide +kernel, by decide +kernel⟩, List.mem_of_getElem? (i := 35) (by decide +kernel), List.mem_of_getElem? (i := 389) (by decide +kernel), List.mem_of_getElem? (i := 390) (by decide +kernel)⟩
def lw_privs_1 : List (MethodName × Nat) := [(⟨"ClocksTold$Shop", "enter", "(III)I"⟩, 11), (⟨"ClocksTold$Shop", "learn", "(I)V"⟩, 11), (⟨"ClocksTold$Bench", "newsBy", "([I)I"⟩, 6), (⟨"ClocksTold$Bench", "isTrue", "(II[I)Z"⟩, 6), (⟨"ClocksTold", "isClock", "(I)Z"⟩, 10), (⟨"ClocksTold$Shop", "leftOf", "(LClocksTold$Course;I)I"⟩, 11), (⟨"ClocksTold$Shop", "newsAhead", "(II)I"⟩, 11), (⟨"ClocksTold$Shop", "holds", "(II)I"⟩, 11), (⟨"ClocksTold$Shop", "pace", "()I"⟩, 11), (⟨"ClocksTold$Asker", "minded", "(I)I"⟩, 4), (⟨"ClocksTold$Shop", "minds", "(II)Z"⟩, 11), (⟨"ClocksTold$Shop", "newsOf", "(II)I"⟩, 11), (⟨"ClocksTold$Asker", "whole", "(I)I"⟩, 4), (⟨"ClocksTold$Asker", "begin", "()V"⟩, 4), (⟨"ClocksTold$Course", "copyFrom", "(LClocksTold$Course;)V"⟩, 3), (⟨"ClocksTold$Course", "isUp", "(I)Z"⟩, 3)]
theorem lw_r1 : ∀ q ∈ lw_privs_1, lw_okq q := List.forall_mem_cons.mpr ⟨lw_p0, List.forall_mem_cons.mpr ⟨lw_p1, List.forall_mem_cons.mpr ⟨lw_p2, List.forall_mem_cons.mpr ⟨lw_p3, List.forall_mem_cons.mpr ⟨lw_p4, List.forall_mem_cons.mpr ⟨lw_p5, List.forall_mem_cons.mpr ⟨lw_p6, List.forall_mem_cons.mpr ⟨lw_p7, List.forall_mem_cons.mpr ⟨lw_p8, List.forall_mem_cons.mpr ⟨lw_p9, List.forall_mem_cons.mpr ⟨lw_p10, List.forall_mem_cons.mpr ⟨lw_p11, List.forall_mem_cons.mpr ⟨lw_p12, List.forall_mem_cons.mpr ⟨lw_p13, List.forall_mem_cons.mpr ⟨lw_p14, List.forall_mem_cons.mpr ⟨lw_p15, fun _ h => absurd h List.not_mem_nil⟩⟩⟩⟩⟩⟩⟩⟩⟩⟩⟩⟩⟩⟩⟩⟩
theorem lw_p16 : lw_okq (⟨"ClocksTold$Shop", "evening", "(LClocksTold$Course;I)I"⟩, 11) := ⟨⟨by decide +kernel, by decide +kernel⟩, List.mem_of_getElem? (i := 29) (by decide +kernel), List.mem_of_getElem? (i := 393) (by decide +kernel), List.mem_of_getElem? (i := 394) (by decide +kernel)⟩
theorem lw_p17 : lw_okq (⟨"ClocksTold$Shop", "night", "(LClocksTold$Course;)V"⟩, 11) := ⟨⟨by decide +kernel, by decide +kernel⟩, List.mem_of_getElem? (i := 29) (by decide +kernel), List.mem_of_getElem? (i := 399) (by decide +kernel), List.mem_of_getElem? (i := 400) (by decide +kernel)⟩
theorem lw_p18 : lw_okq (⟨"ClocksTold$Reader", "take", "(B)Z"⟩, 6) := ⟨⟨by decide +kernel, by decide +kernel⟩, List.mem_of_getElem? (i := 130) (by decide +kernel), List.mem_of_getElem? (i := 425) (by decide +kernel), List.mem_of_getElem? (i := 426) (by decide +kernel)⟩
theorem lw_p19 : lw_okq (⟨"ClocksTold$Reader", "readInto", "(LClocksTold$Bench;)Z"⟩, 6) := ⟨⟨by decide +kernel, by decide +kernel⟩, List.mem_of_getElem? (i := 130) (by decide +kernel), List.mem_of_getElem? (i := 433) (by decide +kernel), List.mem_of_getElem? (i := 434) (by decide +kernel)⟩
theorem lw_p20 : lw_okq (⟨"ClocksTold$Bench", "clear", "()V"⟩, 6) := ⟨⟨by decide +kernel, by decide +kernel⟩, List.mem_of_getElem? (i := 235) (by decide +kernel), List.mem_of_getElem? (i := 437) (by decide +kernel), List.mem_of_getElem? (i := 438) (by decide +kernel)⟩
theorem lw_p21 : lw_okq (⟨"ClocksTold$Reader", "step", "()V"⟩, 6) := ⟨⟨by decide +kernel, by decide +kernel⟩, List.mem_of_getElem? (i := 130) (by decide +kernel), List.mem_of_getElem? (i := 441) (by decide +kernel), List.mem_of_getElem? (i := 442) (by decide +kernel)⟩
theorem lw_p22 : lw_okq (⟨"ClocksTold$Reader", "clause", "()V"⟩, 6) := ⟨⟨by decide +kernel, by decide +kernel⟩, List.mem_of_getElem? (i := 130) (by decide +kernel), List.mem_of_getElem? (i := 445) (by decide +kernel), List.mem_of_getElem? (i := 446) (by decide +kernel)⟩
theorem lw_p23 : lw_okq (⟨"ClocksTold$Reader", "word", "(Ljava/lang/String;)V"⟩, 6) := ⟨⟨by decide +kernel, by decide +kernel⟩, List.mem_of_getElem? (i := 130) (by decide +kernel), List.mem_of_getElem? (i := 450) (by decide +kernel), List.mem_of_getElem? (i := 451) (by decide +kernel)⟩
theorem lw_p24 : lw_okq (⟨"ClocksTold$Reader", "need", "(C)V"⟩, 6) := ⟨⟨by decide +kernel, by decide +kernel⟩, List.mem_of_getElem? (i := 130) (by decide +kernel), List.mem_of_getElem? (i := 502) (by decide +kernel), List.mem_of_getElem? (i := 503) (by decide +kernel)⟩
theorem lw_p25 : lw_okq (⟨"ClocksTold$Reader", "number", "()I"⟩, 6) := ⟨⟨by decide +kernel, by decide +kernel⟩, List.mem_of_getElem? (i := 130) (by decide +kernel), List.mem_of_getElem? (i := 506) (by decide +kernel), List.mem_of_getElem? (i := 507) (by decide +kernel)⟩
theorem lw_p26 : lw_okq (⟨"ClocksTold$Reader", "isDigit", "()Z"⟩, 6) := ⟨⟨by decide +kernel, by decide +kernel⟩, List.mem_of_getElem? (i := 130) (by decide +kernel), List.mem_of_getElem? (i := 510) (by decide +kernel), List.mem_of_getElem? (i := 511) (by decide +kernel)⟩
theorem lw_p27 : lw_okq (⟨"ClocksTold$Reader", "either", "(I)V"⟩, 6) := ⟨⟨by decide +kernel, by decide +kernel⟩, List.mem_of_getElem? (i := 130) (by decide +kernel), List.mem_of_getElem? (i := 517) (by decide +kernel), List.mem_of_getElem? (i := 518) (by decide +kernel)⟩
theorem lw_p28 : lw_okq (⟨"ClocksTold$Reader", "both", "(I)V"⟩, 6) := ⟨⟨by decide +kernel, by decide +kernel⟩, List.mem_of_getElem? (i := 130) (by decide +kernel), List.mem_of_getElem? (i := 521) (by decide +kernel), List.mem_of_getElem? (i := 522) (by decide +kernel)⟩
theorem lw_p29 : lw_okq (⟨"ClocksTold$Reader", "factor", "(I)V"⟩, 6) := ⟨⟨by decide +kernel, by decide +kernel⟩, List.mem_of_getElem? (i := 130) (by decide +kernel), List.mem_of_getElem? (i := 525) (by decide +kernel), List.mem_of_getElem? (i := 526) (by decide +kernel)⟩
theorem lw_p30 : lw_okq (⟨"ClocksTold$Bench", "addStep", "(I)V"⟩, 6) := ⟨⟨by decide +kernel, by decide +kernel⟩, List.mem_of_getElem? (i := 235) (by decide +kernel), List.mem_of_getElem? (i := 529) (by decide +kernel), List.mem_of_getElem? (i := 530) (by decide +kernel)⟩
theorem lw_p31 : lw_okq (⟨"ClocksTold$Reader", "choice", "(Ljava/lang/String;)I"⟩, 6) := ⟨⟨by decide +kernel, by decide +kernel⟩, List.mem_of_getElem? (i := 130) (by decide +kernel), List.mem_of_getElem? (i := 534) (by decide +kernel), List.mem_of_getElem? (i := 535) (by decide +kernel)⟩
def lw_privs_2 : List (MethodName × Nat) := [(⟨"ClocksTold$Shop", "evening", "(LClocksTold$Course;I)I"⟩, 11), (⟨"ClocksTold$Shop", "night", "(LClocksTold$Course;)V"⟩, 11), (⟨"ClocksTold$Reader", "take", "(B)Z"⟩, 6), (⟨"ClocksTold$Reader", "readInto", "(LClocksTold$Bench;)Z"⟩, 6), (⟨"ClocksTold$Bench", "clear", "()V"⟩, 6), (⟨"ClocksTold$Reader", "step", "()V"⟩, 6), (⟨"ClocksTold$Reader", "clause", "()V"⟩, 6), (⟨"ClocksTold$Reader", "word", "(Ljava/lang/String;)V"⟩, 6), (⟨"ClocksTold$Reader", "need", "(C)V"⟩, 6), (⟨"ClocksTold$Reader", "number", "()I"⟩, 6), (⟨"ClocksTold$Reader", "isDigit", "()Z"⟩, 6), (⟨"ClocksTold$Reader", "either", "(I)V"⟩, 6), (⟨"ClocksTold$Reader", "both", "(I)V"⟩, 6), (⟨"ClocksTold$Reader", "factor", "(I)V"⟩, 6), (⟨"ClocksTold$Bench", "addStep", "(I)V"⟩, 6), (⟨"ClocksTold$Reader", "choice", "(Ljava/lang/String;)I"⟩, 6)]
theorem lw_r2 : ∀ q ∈ lw_privs_2, lw_okq q := List.forall_mem_cons.mpr ⟨lw_p16, List.forall_mem_cons.mpr ⟨lw_p17, List.forall_mem_cons.mpr ⟨lw_p18, List.forall_mem_cons.mpr ⟨lw_p19, List.forall_mem_cons.mpr ⟨lw_p20, List.forall_mem_cons.mpr ⟨lw_p21, List.forall_mem_cons.mpr ⟨lw_p22, List.forall_mem_cons.mpr ⟨lw_p23, List.forall_mem_cons.mpr ⟨lw_p24, List.forall_mem_cons.mpr ⟨lw_p25, List.forall_mem_cons.mpr ⟨lw_p26, List.forall_mem_cons.mpr ⟨lw_p27, List.forall_mem_cons.mpr ⟨lw_p28, List.forall_mem_cons.mpr ⟨lw_p29, List.forall_mem_cons.mpr ⟨lw_p30, List.forall_mem_cons.mpr ⟨lw_p31, fun _ h => absurd h List.not_mem_nil⟩⟩⟩⟩⟩⟩⟩⟩⟩⟩⟩⟩⟩⟩⟩⟩
theorem lw_p32 : lw_okq (⟨"ClocksTold$Bench", "addClause", "(I)V"⟩, 6) := ⟨⟨by decide +kernel, by decide +kernel⟩, List.mem_of_getElem? (i := 235) (by decide +kernel), List.mem_of_getElem? (i := 599) (by decide +kernel), List.mem_of_getElem? (i := 600) (by decide +kernel)⟩
theorem lw_p33 : lw_okq (⟨"ClocksTold$Shop", "hold", "(LClocksTold$Bench;)V"⟩, 11) := ⟨⟨by decide +kernel, by decide +kernel⟩, List.mem_of_getElem? (i := 29) (by decide +kernel), List.mem_of_getElem? (i := 603) (by decide +kernel), List.mem_of_getElem? (i := 604) (by decide +kernel)⟩
theorem lw_p34 : lw_okq (⟨"ClocksTold$Shop", "howManyUp", "(LClocksTold$Course;)I"⟩, 11) := ⟨⟨by decide +kernel, by decide +kernel⟩, List.mem_of_getElem? (i := 29) (by decide +kernel), List.mem_of_getElem? (i := 612) (by decide +kernel), List.mem_of_getElem? (i := 613) (by decide +kernel)⟩
theorem lw_p35 : lw_okq (⟨"ClocksTold$Shop", "leftOfAll", "(LClocksTold$Course;)I"⟩, 11) := ⟨⟨by decide +kernel, by decide +kernel⟩, List.mem_of_getElem? (i := 29) (by decide +kernel), List.mem_of_getElem? (i := 616) (by decide +kernel), List.mem_of_getElem? (i := 617) (by decide +kernel)⟩
theorem lw_p36 : lw_okq (⟨"ClocksTold$Asker", "behind", "(III)I"⟩, 4) := ⟨⟨by decide +kernel, by decide +kernel⟩, List.mem_of_getElem? (i := 160) (by decide +kernel), List.mem_of_getElem? (i := 635) (by decide +kernel), List.mem_of_getElem? (i := 636) (by decide +kernel)⟩
theorem lw_p37 : lw_okq (⟨"ClocksTold$Asker", "tellOften", "(II)V"⟩, 4) := ⟨⟨by decide +kernel, by decide +kernel⟩, List.mem_of_getElem? (i := 160) (by decide +kernel), List.mem_of_getElem? (i := 639) (by decide +kernel), List.mem_of_getElem? (i := 640) (by decide +kernel)⟩
theorem lw_p38 : lw_okq (⟨"ClocksTold$Planner", "findOrder", "()V"⟩, 5) := ⟨⟨by decide +kernel, by decide +kernel⟩, List.mem_of_getElem? (i := 183) (by decide +kernel), List.mem_of_getElem? (i := 648) (by decide +kernel), List.mem_of_getElem? (i := 649) (by decide +kernel)⟩
theorem lw_p39 : lw_okq (⟨"ClocksTold$Planner", "tryOrders", "(III)V"⟩, 5) := ⟨⟨by decide +kernel, by decide +kernel⟩, List.mem_of_getElem? (i := 183) (by decide +kernel), List.mem_of_getElem? (i := 653) (by decide +kernel), List.mem_of_getElem? (i := 654) (by decide +kernel)⟩
theorem lw_p40 : lw_okq (⟨"ClocksTold$Planner", "keep", "(I)V"⟩, 5) := ⟨⟨by decide +kernel, by decide +kernel⟩, List.mem_of_getElem? (i := 183) (by decide +kernel), List.mem_of_getElem? (i := 657) (by decide +kernel), List.mem_of_getElem? (i := 658) (by decide +kernel)⟩
theorem lw_p41 : lw_okq (⟨"ClocksTold$Planner", "turn", "(LClocksTold$Course;I)I"⟩, 5) := ⟨⟨by decide +kernel, by decide +kernel⟩, List.mem_of_getElem? (i := 183) (by decide +kernel), List.mem_of_getElem? (i := 664) (by decide +kernel), List.mem_of_getElem? (i := 665) (by decide +kernel)⟩
theorem lw_p42 : lw_okq (⟨"ClocksTold$Planner", "findRow", "(I)V"⟩, 5) := ⟨⟨by decide +kernel, by decide +kernel⟩, List.mem_of_getElem? (i := 183) (by decide +kernel), List.mem_of_getElem? (i := 674) (by decide +kernel), List.mem_of_getElem? (i := 675) (by decide +kernel)⟩
theorem lw_p43 : lw_okq (⟨"ClocksTold$Planner", "tryRows", "(II)V"⟩, 5) := ⟨⟨by decide +kernel, by decide +kernel⟩, List.mem_of_getElem? (i := 183) (by decide +kernel), List.mem_of_getElem? (i := 678) (by decide +kernel), List.mem_of_getElem? (i := 679) (by decide +kernel)⟩
theorem lw_p44 : lw_okq (⟨"ClocksTold$Asker", "bestNext", "()I"⟩, 4) := ⟨⟨by decide +kernel, by decide +kernel⟩, List.mem_of_getElem? (i := 160) (by decide +kernel), List.mem_of_getElem? (i := 687) (by decide +kernel), List.mem_of_getElem? (i := 688) (by decide +kernel)⟩
theorem lw_p45 : lw_okq (⟨"ClocksTold$Rows", "empty", "()I"⟩, 3) := ⟨⟨by decide +kernel, by decide +kernel⟩, List.mem_of_getElem? (i := 63) (by decide +kernel), List.mem_of_getElem? (i := 697) (by decide +kernel), List.mem_of_getElem? (i := 698) (by decide +kernel)⟩
theorem lw_p46 : lw_okq (⟨"ClocksTold$Rows", "put", "(III)I"⟩, 3) := ⟨⟨by decide +kernel, by decide +kernel⟩, List.mem_of_getElem? (i := 63) (by decide +kernel), List.mem_of_getElem? (i := 701) (by decide +kernel), List.mem_of_getElem? (i := 702) (by decide +kernel)⟩
theorem lw_p47 : lw_okq (⟨"ClocksTold$Asker", "weighDays", "(I)V"⟩, 4) := ⟨⟨by decide +kernel, by decide +kernel⟩, List.mem_of_getElem? (i := 160) (by decide +kernel), List.mem_of_getElem? (i := 709) (by decide +kernel), List.mem_of_getElem? (i := 710) (by decide +kernel)⟩
def lw_privs_3 : List (MethodName × Nat) := [(⟨"ClocksTold$Bench", "addClause", "(I)V"⟩, 6), (⟨"ClocksTold$Shop", "hold", "(LClocksTold$Bench;)V"⟩, 11), (⟨"ClocksTold$Shop", "howManyUp", "(LClocksTold$Course;)I"⟩, 11), (⟨"ClocksTold$Shop", "leftOfAll", "(LClocksTold$Course;)I"⟩, 11), (⟨"ClocksTold$Asker", "behind", "(III)I"⟩, 4), (⟨"ClocksTold$Asker", "tellOften", "(II)V"⟩, 4), (⟨"ClocksTold$Planner", "findOrder", "()V"⟩, 5), (⟨"ClocksTold$Planner", "tryOrders", "(III)V"⟩, 5), (⟨"ClocksTold$Planner", "keep", "(I)V"⟩, 5), (⟨"ClocksTold$Planner", "turn", "(LClocksTold$Course;I)I"⟩, 5), (⟨"ClocksTold$Planner", "findRow", "(I)V"⟩, 5), (⟨"ClocksTold$Planner", "tryRows", "(II)V"⟩, 5), (⟨"ClocksTold$Asker", "bestNext", "()I"⟩, 4), (⟨"ClocksTold$Rows", "empty", "()I"⟩, 3), (⟨"ClocksTold$Rows", "put", "(III)I"⟩, 3), (⟨"ClocksTold$Asker", "weighDays", "(I)V"⟩, 4)]
theorem lw_r3 : ∀ q ∈ lw_privs_3, lw_okq q := List.forall_mem_cons.mpr ⟨lw_p32, List.forall_mem_cons.mpr ⟨lw_p33, List.forall_mem_cons.mpr ⟨lw_p34, List.forall_mem_cons.mpr ⟨lw_p35, List.forall_mem_cons.mpr ⟨lw_p36, List.forall_mem_cons.mpr ⟨lw_p37, List.forall_mem_cons.mpr ⟨lw_p38, List.forall_mem_cons.mpr ⟨lw_p39, List.forall_mem_cons.mpr ⟨lw_p40, List.forall_mem_cons.mpr ⟨lw_p41, List.forall_mem_cons.mpr ⟨lw_p42, List.forall_mem_cons.mpr ⟨lw_p43, List.forall_mem_cons.mpr ⟨lw_p44, List.forall_mem_cons.mpr ⟨lw_p45, List.forall_mem_cons.mpr ⟨lw_p46, List.forall_mem_cons.mpr ⟨lw_p47, fun _ h => absurd h List.not_mem_nil⟩⟩⟩⟩⟩⟩⟩⟩⟩⟩⟩⟩⟩⟩⟩⟩
theorem lw_p48 : lw_okq (⟨"ClocksTold$Asker", "weighNothing", "()V"⟩, 4) := ⟨⟨by decide +kernel, by decide +kernel⟩, List.mem_of_getElem? (i := 160) (by decide +kernel), List.mem_of_getElem? (i := 713) (by decide +kernel), List.mem_of_getElem? (i := 714) (by decide +kernel)⟩
theorem lw_p49 : lw_okq (⟨"ClocksTold$Asker", "weigh", "(III)V"⟩, 4) := ⟨⟨by decide +kernel, by decide +kernel⟩, List.mem_of_getElem? (i := 160) (by decide +kernel), List.mem_of_getElem? (i := 717) (by decide +kernel), List.mem_of_getElem? (i := 718) (by decide +kernel)⟩
theorem lw_p50 : lw_okq (⟨"ClocksTold$Rows", "cell", "(II)I"⟩, 3) := ⟨⟨by decide +kernel, by decide +kernel⟩, List.mem_of_getElem? (i := 63) (by decide +kernel), List.mem_of_getElem? (i := 721) (by decide +kernel), List.mem_of_getElem? (i := 722) (by decide +kernel)⟩
theorem lw_p51 : lw_okq (⟨"ClocksTold$Asker", "isSo", "(III)Z"⟩, 4) := ⟨⟨by decide +kernel, by decide +kernel⟩, List.mem_of_getElem? (i := 160) (by decide +kernel), List.mem_of_getElem? (i := 725) (by decide +kernel), List.mem_of_getElem? (i := 726) (by decide +kernel)⟩
theorem lw_p52 : lw_okq (⟨"ClocksTold$Asker", "weighValues", "(I)V"⟩, 4) := ⟨⟨by decide +kernel, by decide +kernel⟩, List.mem_of_getElem? (i := 160) (by decide +kernel), List.mem_of_getElem? (i := 733) (by decide +kernel), List.mem_of_getElem? (i := 734) (by decide +kernel)⟩
theorem lw_p53 : lw_okq (⟨"ClocksTold$Asker", "howManyUpBehind", "(I)I"⟩, 4) := ⟨⟨by decide +kernel, by decide +kernel⟩, List.mem_of_getElem? (i := 160) (by decide +kernel), List.mem_of_getElem? (i := 743) (by decide +kernel), List.mem_of_getElem? (i := 744) (by decide +kernel)⟩
theorem lw_p54 : lw_okq (⟨"ClocksTold$Asker", "monthEnds", "(I)I"⟩, 4) := ⟨⟨by decide +kernel, by decide +kernel⟩, List.mem_of_getElem? (i := 160) (by decide +kernel), List.mem_of_getElem? (i := 765) (by decide +kernel), List.mem_of_getElem? (i := 766) (by decide +kernel)⟩
theorem lw_p55 : lw_okq (⟨"ClocksTold$Tape", "has", "(I)Z"⟩, 3) := ⟨⟨by decide +kernel, by decide +kernel⟩, List.mem_of_getElem? (i := 261) (by decide +kernel), List.mem_of_getElem? (i := 787) (by decide +kernel), List.mem_of_getElem? (i := 788) (by decide +kernel)⟩
theorem lw_p56 : lw_okq (⟨"ClocksTold$Shop", "copyFrom", "(LClocksTold$Shop;)V"⟩, 11) := ⟨⟨by decide +kernel, by decide +kernel⟩, List.mem_of_getElem? (i := 29) (by decide +kernel), List.mem_of_getElem? (i := 795) (by decide +kernel), List.mem_of_getElem? (i := 796) (by decide +kernel)⟩
theorem lw_p57 : lw_okq (⟨"ClocksTold$Rows", "copyFrom", "(LClocksTold$Rows;)V"⟩, 3) := ⟨⟨by decide +kernel, by decide +kernel⟩, List.mem_of_getElem? (i := 63) (by decide +kernel), List.mem_of_getElem? (i := 801) (by decide +kernel), List.mem_of_getElem? (i := 802) (by decide +kernel)⟩
theorem lw_p58 : lw_okq (⟨"ClocksTold$Acts", "start", "(IIIII)I"⟩, 5) := ⟨⟨by decide +kernel, by decide +kernel⟩, List.mem_of_getElem? (i := 210) (by decide +kernel), List.mem_of_getElem? (i := 814) (by decide +kernel), List.mem_of_getElem? (i := 815) (by decide +kernel)⟩
theorem lw_p59 : lw_okq (⟨"ClocksTold$Acts", "run", "(IIII)I"⟩, 5) := ⟨⟨by decide +kernel, by decide +kernel⟩, List.mem_of_getElem? (i := 210) (by decide +kernel), List.mem_of_getElem? (i := 818) (by decide +kernel), List.mem_of_getElem? (i := 819) (by decide +kernel)⟩
theorem lw_p60 : lw_okq (⟨"ClocksTold$Acts", "note", "(I)V"⟩, 5) := ⟨⟨by decide +kernel, by decide +kernel⟩, List.mem_of_getElem? (i := 210) (by decide +kernel), List.mem_of_getElem? (i := 829) (by decide +kernel), List.mem_of_getElem? (i := 830) (by decide +kernel)⟩
theorem lw_p61 : lw_okq (⟨"ClocksTold$Tape", "become", "(II)V"⟩, 3) := ⟨⟨by decide +kernel, by decide +kernel⟩, List.mem_of_getElem? (i := 261) (by decide +kernel), List.mem_of_getElem? (i := 854) (by decide +kernel), List.mem_of_getElem? (i := 855) (by decide +kernel)⟩
theorem lw_p62 : lw_okq (⟨"ClocksTold$Tape", "cut", "(J)J"⟩, 3) := ⟨⟨by decide +kernel, by decide +kernel⟩, List.mem_of_getElem? (i := 261) (by decide +kernel), List.mem_of_getElem? (i := 865) (by decide +kernel), List.mem_of_getElem? (i := 866) (by decide +kernel)⟩
theorem lw_p63 : lw_okq (⟨"ClocksTold$Tape", "hasRun", "(II)Z"⟩, 3) := ⟨⟨by decide +kernel, by decide +kernel⟩, List.mem_of_getElem? (i := 261) (by decide +kernel), List.mem_of_getElem? (i := 877) (by decide +kernel), List.mem_of_getElem? (i := 878) (by decide +kernel)⟩
def lw_privs_4 : List (MethodName × Nat) := [(⟨"ClocksTold$Asker", "weighNothing", "()V"⟩, 4), (⟨"ClocksTold$Asker", "weigh", "(III)V"⟩, 4), (⟨"ClocksTold$Rows", "cell", "(II)I"⟩, 3), (⟨"ClocksTold$Asker", "isSo", "(III)Z"⟩, 4), (⟨"ClocksTold$Asker", "weighValues", "(I)V"⟩, 4), (⟨"ClocksTold$Asker", "howManyUpBehind", "(I)I"⟩, 4), (⟨"ClocksTold$Asker", "monthEnds", "(I)I"⟩, 4), (⟨"ClocksTold$Tape", "has", "(I)Z"⟩, 3), (⟨"ClocksTold$Shop", "copyFrom", "(LClocksTold$Shop;)V"⟩, 11), (⟨"ClocksTold$Rows", "copyFrom", "(LClocksTold$Rows;)V"⟩, 3), (⟨"ClocksTold$Acts", "start", "(IIIII)I"⟩, 5), (⟨"ClocksTold$Acts", "run", "(IIII)I"⟩, 5), (⟨"ClocksTold$Acts", "note", "(I)V"⟩, 5), (⟨"ClocksTold$Tape", "become", "(II)V"⟩, 3), (⟨"ClocksTold$Tape", "cut", "(J)J"⟩, 3), (⟨"ClocksTold$Tape", "hasRun", "(II)Z"⟩, 3)]
theorem lw_r4 : ∀ q ∈ lw_privs_4, lw_okq q := List.forall_mem_cons.mpr ⟨lw_p48, List.forall_mem_cons.mpr ⟨lw_p49, List.forall_mem_cons.mpr ⟨lw_p50, List.forall_mem_cons.mpr ⟨lw_p51, List.forall_mem_cons.mpr ⟨lw_p52, List.forall_mem_cons.mpr ⟨lw_p53, List.forall_mem_cons.mpr ⟨lw_p54, List.forall_mem_cons.mpr ⟨lw_p55, List.forall_mem_cons.mpr ⟨lw_p56, List.forall_mem_cons.mpr ⟨lw_p57, List.forall_mem_cons.mpr ⟨lw_p58, List.forall_mem_cons.mpr ⟨lw_p59, List.forall_mem_cons.mpr ⟨lw_p60, List.forall_mem_cons.mpr ⟨lw_p61, List.forall_mem_cons.mpr ⟨lw_p62, List.forall_mem_cons.mpr ⟨lw_p63, fun _ h => absurd h List.not_mem_nil⟩⟩⟩⟩⟩⟩⟩⟩⟩⟩⟩⟩⟩⟩⟩⟩
theorem lw_p64 : lw_okq (⟨"ClocksToldModel", "in", "(III)Z"⟩, 66) := ⟨⟨by decide +kernel, by decide +kernel⟩, List.mem_of_getElem? (i := 882) (by decide +kernel), List.mem_of_getElem? (i := 1091) (by decide +kernel), List.mem_of_getElem? (i := 1092) (by decide +kernel)⟩
theorem lw_p65 : lw_okq (⟨"ClocksToldModel", "balks", "(IZ)V"⟩, 66) := ⟨⟨by decide +kernel, by decide +kernel⟩, List.mem_of_getElem? (i := 882) (by decide +kernel), List.mem_of_getElem? (i := 1095) (by decide +kernel), List.mem_of_getElem? (i := 1096) (by decide +kernel)⟩
theorem lw_p66 : lw_okq (⟨"ClocksToldModel", "isClock", "(I)Z"⟩, 66) := ⟨⟨by decide +kernel, by decide +kernel⟩, List.mem_of_getElem? (i := 882) (by decide +kernel), List.mem_of_getElem? (i := 1103) (by decide +kernel), List.mem_of_getElem? (i := 1104) (by decide +kernel)⟩
theorem lw_p67 : lw_okq (⟨"ClocksToldModel", "has", "(II)Z"⟩, 66) := ⟨⟨by decide +kernel, by decide +kernel⟩, List.mem_of_getElem? (i := 882) (by decide +kernel), List.mem_of_getElem? (i := 1111) (by decide +kernel), List.mem_of_getElem? (i := 1112) (by decide +kernel)⟩
theorem lw_p68 : lw_okq (⟨"ClocksToldModel", "goesText", "(I)Z"⟩, 66) := ⟨⟨by decide +kernel, by decide +kernel⟩, List.mem_of_getElem? (i := 882) (by decide +kernel), List.mem_of_getElem? (i := 1127) (by decide +kernel), List.mem_of_getElem? (i := 1128) (by decide +kernel)⟩
theorem lw_p69 : lw_okq (⟨"ClocksToldModel", "takesClause", "(I)Z"⟩, 66) := ⟨⟨by decide +kernel, by decide +kernel⟩, List.mem_of_getElem? (i := 882) (by decide +kernel), List.mem_of_getElem? (i := 1131) (by decide +kernel), List.mem_of_getElem? (i := 1132) (by decide +kernel)⟩
theorem lw_p70 : lw_okq (⟨"ClocksToldModel", "takesHead", "(I)Z"⟩, 66) := ⟨⟨by decide +kernel, by decide +kernel⟩, List.mem_of_getElem? (i := 882) (by decide +kernel), List.mem_of_getElem? (i := 1135) (by decide +kernel), List.mem_of_getElem? (i := 1136) (by decide +kernel)⟩
theorem lw_p71 : lw_okq (⟨"ClocksToldModel", "peek", "()I"⟩, 66) := ⟨⟨by decide +kernel, by decide +kernel⟩, List.mem_of_getElem? (i := 882) (by decide +kernel), List.mem_of_getElem? (i := 1139) (by decide +kernel), List.mem_of_getElem? (i := 1140) (by decide +kernel)⟩
theorem lw_p72 : lw_okq (⟨"ClocksToldModel", "takesWord", "(II)Z"⟩, 66) := ⟨⟨by decide +kernel, by decide +kernel⟩, List.mem_of_getElem? (i := 882) (by decide +kernel), List.mem_of_getElem? (i := 1143) (by decide +kernel), List.mem_of_getElem? (i := 1144) (by decide +kernel)⟩
theorem lw_p73 : lw_okq (⟨"ClocksToldModel", "takes", "(I)Z"⟩, 66) := ⟨⟨by decide +kernel, by decide +kernel⟩, List.mem_of_getElem? (i := 882) (by decide +kernel), List.mem_of_getElem? (i := 1147) (by decide +kernel), List.mem_of_getElem? (i := 1148) (by decide +kernel)⟩
theorem lw_p74 : lw_okq (⟨"ClocksToldModel", "takesNumber", "()Z"⟩, 66) := ⟨⟨by decide +kernel, by decide +kernel⟩, List.mem_of_getElem? (i := 882) (by decide +kernel), List.mem_of_getElem? (i := 1151) (by decide +kernel), List.mem_of_getElem? (i := 1152) (by decide +kernel)⟩
theorem lw_p75 : lw_okq (⟨"ClocksToldModel", "isDigit", "()Z"⟩, 66) := ⟨⟨by decide +kernel, by decide +kernel⟩, List.mem_of_getElem? (i := 882) (by decide +kernel), List.mem_of_getElem? (i := 1155) (by decide +kernel), List.mem_of_getElem? (i := 1156) (by decide +kernel)⟩
theorem lw_p76 : lw_okq (⟨"ClocksToldModel", "takesE", "(I)Z"⟩, 66) := ⟨⟨by decide +kernel, by decide +kernel⟩, List.mem_of_getElem? (i := 882) (by decide +kernel), List.mem_of_getElem? (i := 1159) (by decide +kernel), List.mem_of_getElem? (i := 1160) (by decide +kernel)⟩
theorem lw_p77 : lw_okq (⟨"ClocksToldModel", "takesTest", "()Z"⟩, 66) := ⟨⟨by decide +kernel, by decide +kernel⟩, List.mem_of_getElem? (i := 882) (by decide +kernel), List.mem_of_getElem? (i := 1163) (by decide +kernel), List.mem_of_getElem? (i := 1164) (by decide +kernel)⟩
theorem lw_p78 : lw_okq (⟨"ClocksToldModel", "place", "(I)I"⟩, 66) := ⟨⟨by decide +kernel, by decide +kernel⟩, List.mem_of_getElem? (i := 882) (by decide +kernel), List.mem_of_getElem? (i := 1167) (by decide +kernel), List.mem_of_getElem? (i := 1168) (by decide +kernel)⟩
theorem lw_p79 : lw_okq (⟨"ClocksToldModel", "emits", "(I)V"⟩, 66) := ⟨⟨by decide +kernel, by decide +kernel⟩, List.mem_of_getElem? (i := 882) (by decide +kernel), List.mem_of_getElem? (i := 1171) (by decide +kernel), List.mem_of_getElem? (i := 1172) (by decide +kernel)⟩
def lw_privs_5 : List (MethodName × Nat) := [(⟨"ClocksToldModel", "in", "(III)Z"⟩, 66), (⟨"ClocksToldModel", "balks", "(IZ)V"⟩, 66), (⟨"ClocksToldModel", "isClock", "(I)Z"⟩, 66), (⟨"ClocksToldModel", "has", "(II)Z"⟩, 66), (⟨"ClocksToldModel", "goesText", "(I)Z"⟩, 66), (⟨"ClocksToldModel", "takesClause", "(I)Z"⟩, 66), (⟨"ClocksToldModel", "takesHead", "(I)Z"⟩, 66), (⟨"ClocksToldModel", "peek", "()I"⟩, 66), (⟨"ClocksToldModel", "takesWord", "(II)Z"⟩, 66), (⟨"ClocksToldModel", "takes", "(I)Z"⟩, 66), (⟨"ClocksToldModel", "takesNumber", "()Z"⟩, 66), (⟨"ClocksToldModel", "isDigit", "()Z"⟩, 66), (⟨"ClocksToldModel", "takesE", "(I)Z"⟩, 66), (⟨"ClocksToldModel", "takesTest", "()Z"⟩, 66), (⟨"ClocksToldModel", "place", "(I)I"⟩, 66), (⟨"ClocksToldModel", "emits", "(I)V"⟩, 66)]
theorem lw_r5 : ∀ q ∈ lw_privs_5, lw_okq q := List.forall_mem_cons.mpr ⟨lw_p64, List.forall_mem_cons.mpr ⟨lw_p65, List.forall_mem_cons.mpr ⟨lw_p66, List.forall_mem_cons.mpr ⟨lw_p67, List.forall_mem_cons.mpr ⟨lw_p68, List.forall_mem_cons.mpr ⟨lw_p69, List.forall_mem_cons.mpr ⟨lw_p70, List.forall_mem_cons.mpr ⟨lw_p71, List.forall_mem_cons.mpr ⟨lw_p72, List.forall_mem_cons.mpr ⟨lw_p73, List.forall_mem_cons.mpr ⟨lw_p74, List.forall_mem_cons.mpr ⟨lw_p75, List.forall_mem_cons.mpr ⟨lw_p76, List.forall_mem_cons.mpr ⟨lw_p77, List.forall_mem_cons.mpr ⟨lw_p78, List.forall_mem_cons.mpr ⟨lw_p79, fun _ h => absurd h List.not_mem_nil⟩⟩⟩⟩⟩⟩⟩⟩⟩⟩⟩⟩⟩⟩⟩⟩
theorem lw_p80 : lw_okq (⟨"ClocksToldModel", "whole", "()V"⟩, 66) := ⟨⟨by decide +kernel, by decide +kernel⟩, List.mem_of_getElem? (i := 882) (by decide +kernel), List.mem_of_getElem? (i := 1175) (by decide +kernel), List.mem_of_getElem? (i := 1176) (by decide +kernel)⟩
theorem lw_p81 : lw_okq (⟨"ClocksToldModel", "settle", "(I)V"⟩, 66) := ⟨⟨by decide +kernel, by decide +kernel⟩, List.mem_of_getElem? (i := 882) (by decide +kernel), List.mem_of_getElem? (i := 1179) (by decide +kernel), List.mem_of_getElem? (i := 1180) (by decide +kernel)⟩
theorem lw_p82 : lw_okq (⟨"ClocksToldModel", "isDay", "(I)Z"⟩, 66) := ⟨⟨by decide +kernel, by decide +kernel⟩, List.mem_of_getElem? (i := 882) (by decide +kernel), List.mem_of_getElem? (i := 1187) (by decide +kernel), List.mem_of_getElem? (i := 1188) (by decide +kernel)⟩
theorem lw_p83 : lw_okq (⟨"ClocksToldModel", "newsOf", "(II)I"⟩, 66) := ⟨⟨by decide +kernel, by decide +kernel⟩, List.mem_of_getElem? (i := 882) (by decide +kernel), List.mem_of_getElem? (i := 1191) (by decide +kernel), List.mem_of_getElem? (i := 1192) (by decide +kernel)⟩
theorem lw_p84 : lw_okq (⟨"ClocksToldModel", "newsNow", "(II)I"⟩, 66) := ⟨⟨by decide +kernel, by decide +kernel⟩, List.mem_of_getElem? (i := 882) (by decide +kernel), List.mem_of_getElem? (i := 1195) (by decide +kernel), List.mem_of_getElem? (i := 1196) (by decide +kernel)⟩
theorem lw_p85 : lw_okq (⟨"ClocksToldModel", "begin", "()I"⟩, 66) := ⟨⟨by decide +kernel, by decide +kernel⟩, List.mem_of_getElem? (i := 882) (by decide +kernel), List.mem_of_getElem? (i := 1199) (by decide +kernel), List.mem_of_getElem? (i := 1200) (by decide +kernel)⟩
theorem lw_p86 : lw_okq (⟨"ClocksToldModel", "behind", "()I"⟩, 66) := ⟨⟨by decide +kernel, by decide +kernel⟩, List.mem_of_getElem? (i := 882) (by decide +kernel), List.mem_of_getElem? (i := 1203) (by decide +kernel), List.mem_of_getElem? (i := 1204) (by decide +kernel)⟩
theorem lw_p87 : lw_okq (⟨"ClocksToldModel", "holds", "(III)Z"⟩, 66) := ⟨⟨by decide +kernel, by decide +kernel⟩, List.mem_of_getElem? (i := 882) (by decide +kernel), List.mem_of_getElem? (i := 1207) (by decide +kernel), List.mem_of_getElem? (i := 1208) (by decide +kernel)⟩
theorem lw_p88 : lw_okq (⟨"ClocksToldModel", "factOf", "(III)I"⟩, 66) := ⟨⟨by decide +kernel, by decide +kernel⟩, List.mem_of_getElem? (i := 882) (by decide +kernel), List.mem_of_getElem? (i := 1211) (by decide +kernel), List.mem_of_getElem? (i := 1212) (by decide +kernel)⟩
theorem lw_p89 : lw_okq (⟨"ClocksToldModel", "goEvening", "(I)I"⟩, 66) := ⟨⟨by decide +kernel, by decide +kernel⟩, List.mem_of_getElem? (i := 882) (by decide +kernel), List.mem_of_getElem? (i := 1219) (by decide +kernel), List.mem_of_getElem? (i := 1220) (by decide +kernel)⟩
theorem lw_p90 : lw_okq (⟨"ClocksToldModel", "holdsOf", "(I)I"⟩, 66) := ⟨⟨by decide +kernel, by decide +kernel⟩, List.mem_of_getElem? (i := 882) (by decide +kernel), List.mem_of_getElem? (i := 1223) (by decide +kernel), List.mem_of_getElem? (i := 1224) (by decide +kernel)⟩
theorem lw_p91 : lw_okq (⟨"ClocksToldModel", "pace", "()I"⟩, 66) := ⟨⟨by decide +kernel, by decide +kernel⟩, List.mem_of_getElem? (i := 882) (by decide +kernel), List.mem_of_getElem? (i := 1227) (by decide +kernel), List.mem_of_getElem? (i := 1228) (by decide +kernel)⟩
theorem lw_p92 : lw_okq (⟨"ClocksToldModel", "minds", "(II)Z"⟩, 66) := ⟨⟨by decide +kernel, by decide +kernel⟩, List.mem_of_getElem? (i := 882) (by decide +kernel), List.mem_of_getElem? (i := 1231) (by decide +kernel), List.mem_of_getElem? (i := 1232) (by decide +kernel)⟩
theorem lw_p93 : lw_okq (⟨"ClocksToldModel", "goNight", "()V"⟩, 66) := ⟨⟨by decide +kernel, by decide +kernel⟩, List.mem_of_getElem? (i := 882) (by decide +kernel), List.mem_of_getElem? (i := 1235) (by decide +kernel), List.mem_of_getElem? (i := 1236) (by decide +kernel)⟩
theorem lw_p94 : lw_okq (⟨"ClocksToldModel", "isUp", "(I)Z"⟩, 66) := ⟨⟨by decide +kernel, by decide +kernel⟩, List.mem_of_getElem? (i := 882) (by decide +kernel), List.mem_of_getElem? (i := 1239) (by decide +kernel), List.mem_of_getElem? (i := 1240) (by decide +kernel)⟩
theorem lw_p95 : lw_okq (⟨"ClocksToldModel", "isEvenings", "(I)Z"⟩, 66) := ⟨⟨by decide +kernel, by decide +kernel⟩, List.mem_of_getElem? (i := 882) (by decide +kernel), List.mem_of_getElem? (i := 1247) (by decide +kernel), List.mem_of_getElem? (i := 1248) (by decide +kernel)⟩
def lw_privs_6 : List (MethodName × Nat) := [(⟨"ClocksToldModel", "whole", "()V"⟩, 66), (⟨"ClocksToldModel", "settle", "(I)V"⟩, 66), (⟨"ClocksToldModel", "isDay", "(I)Z"⟩, 66), (⟨"ClocksToldModel", "newsOf", "(II)I"⟩, 66), (⟨"ClocksToldModel", "newsNow", "(II)I"⟩, 66), (⟨"ClocksToldModel", "begin", "()I"⟩, 66), (⟨"ClocksToldModel", "behind", "()I"⟩, 66), (⟨"ClocksToldModel", "holds", "(III)Z"⟩, 66), (⟨"ClocksToldModel", "factOf", "(III)I"⟩, 66), (⟨"ClocksToldModel", "goEvening", "(I)I"⟩, 66), (⟨"ClocksToldModel", "holdsOf", "(I)I"⟩, 66), (⟨"ClocksToldModel", "pace", "()I"⟩, 66), (⟨"ClocksToldModel", "minds", "(II)Z"⟩, 66), (⟨"ClocksToldModel", "goNight", "()V"⟩, 66), (⟨"ClocksToldModel", "isUp", "(I)Z"⟩, 66), (⟨"ClocksToldModel", "isEvenings", "(I)Z"⟩, 66)]
theorem lw_r6 : ∀ q ∈ lw_privs_6, lw_okq q := List.forall_mem_cons.mpr ⟨lw_p80, List.forall_mem_cons.mpr ⟨lw_p81, List.forall_mem_cons.mpr ⟨lw_p82, List.forall_mem_cons.mpr ⟨lw_p83, List.forall_mem_cons.mpr ⟨lw_p84, List.forall_mem_cons.mpr ⟨lw_p85, List.forall_mem_cons.mpr ⟨lw_p86, List.forall_mem_cons.mpr ⟨lw_p87, List.forall_mem_cons.mpr ⟨lw_p88, List.forall_mem_cons.mpr ⟨lw_p89, List.forall_mem_cons.mpr ⟨lw_p90, List.forall_mem_cons.mpr ⟨lw_p91, List.forall_mem_cons.mpr ⟨lw_p92, List.forall_mem_cons.mpr ⟨lw_p93, List.forall_mem_cons.mpr ⟨lw_p94, List.forall_mem_cons.mpr ⟨lw_p95, fun _ h => absurd h List.not_mem_nil⟩⟩⟩⟩⟩⟩⟩⟩⟩⟩⟩⟩⟩⟩⟩⟩
theorem lw_p96 : lw_okq (⟨"ClocksToldModel", "left", "(I)I"⟩, 66) := ⟨⟨by decide +kernel, by decide +kernel⟩, List.mem_of_getElem? (i := 882) (by decide +kernel), List.mem_of_getElem? (i := 1255) (by decide +kernel), List.mem_of_getElem? (i := 1256) (by decide +kernel)⟩
theorem lw_p97 : lw_okq (⟨"ClocksToldModel", "minded", "(I)I"⟩, 66) := ⟨⟨by decide +kernel, by decide +kernel⟩, List.mem_of_getElem? (i := 882) (by decide +kernel), List.mem_of_getElem? (i := 1259) (by decide +kernel), List.mem_of_getElem? (i := 1260) (by decide +kernel)⟩
theorem lw_p98 : lw_okq (⟨"ClocksToldModel", "whole", "(I)I"⟩, 66) := ⟨⟨by decide +kernel, by decide +kernel⟩, List.mem_of_getElem? (i := 882) (by decide +kernel), List.mem_of_getElem? (i := 1263) (by decide +kernel), List.mem_of_getElem? (i := 1264) (by decide +kernel)⟩
theorem lw_p99 : lw_okq (⟨"ClocksToldModel", "save", "()V"⟩, 66) := ⟨⟨by decide +kernel, by decide +kernel⟩, List.mem_of_getElem? (i := 882) (by decide +kernel), List.mem_of_getElem? (i := 1267) (by decide +kernel), List.mem_of_getElem? (i := 1268) (by decide +kernel)⟩
theorem lw_p100 : lw_okq (⟨"ClocksToldModel", "putBack", "()V"⟩, 66) := ⟨⟨by decide +kernel, by decide +kernel⟩, List.mem_of_getElem? (i := 882) (by decide +kernel), List.mem_of_getElem? (i := 1271) (by decide +kernel), List.mem_of_getElem? (i := 1272) (by decide +kernel)⟩
theorem lw_p101 : lw_okq (⟨"ClocksToldModel", "upMany", "()I"⟩, 66) := ⟨⟨by decide +kernel, by decide +kernel⟩, List.mem_of_getElem? (i := 882) (by decide +kernel), List.mem_of_getElem? (i := 1279) (by decide +kernel), List.mem_of_getElem? (i := 1280) (by decide +kernel)⟩
theorem lw_p102 : lw_okq (⟨"ClocksToldModel", "allLeft", "()I"⟩, 66) := ⟨⟨by decide +kernel, by decide +kernel⟩, List.mem_of_getElem? (i := 882) (by decide +kernel), List.mem_of_getElem? (i := 1283) (by decide +kernel), List.mem_of_getElem? (i := 1284) (by decide +kernel)⟩
theorem lw_p103 : lw_okq (⟨"ClocksToldModel", "goEvenings", "(II)V"⟩, 66) := ⟨⟨by decide +kernel, by decide +kernel⟩, List.mem_of_getElem? (i := 882) (by decide +kernel), List.mem_of_getElem? (i := 1291) (by decide +kernel), List.mem_of_getElem? (i := 1292) (by decide +kernel)⟩
theorem lw_p104 : lw_okq (⟨"ClocksToldModel", "layNews", "()V"⟩, 66) := ⟨⟨by decide +kernel, by decide +kernel⟩, List.mem_of_getElem? (i := 882) (by decide +kernel), List.mem_of_getElem? (i := 1299) (by decide +kernel), List.mem_of_getElem? (i := 1300) (by decide +kernel)⟩
theorem lw_p105 : lw_okq (⟨"ClocksToldModel", "layTurn", "(I)Z"⟩, 66) := ⟨⟨by decide +kernel, by decide +kernel⟩, List.mem_of_getElem? (i := 882) (by decide +kernel), List.mem_of_getElem? (i := 1303) (by decide +kernel), List.mem_of_getElem? (i := 1304) (by decide +kernel)⟩
theorem lw_p106 : lw_okq (⟨"ClocksToldModel", "goTurn", "()I"⟩, 66) := ⟨⟨by decide +kernel, by decide +kernel⟩, List.mem_of_getElem? (i := 882) (by decide +kernel), List.mem_of_getElem? (i := 1307) (by decide +kernel), List.mem_of_getElem? (i := 1308) (by decide +kernel)⟩
theorem lw_p107 : lw_okq (⟨"ClocksToldModel", "goWhole", "(I)I"⟩, 66) := ⟨⟨by decide +kernel, by decide +kernel⟩, List.mem_of_getElem? (i := 882) (by decide +kernel), List.mem_of_getElem? (i := 1311) (by decide +kernel), List.mem_of_getElem? (i := 1312) (by decide +kernel)⟩
theorem lw_p108 : lw_okq (⟨"ClocksToldModel", "isSeen", "(I)Z"⟩, 66) := ⟨⟨by decide +kernel, by decide +kernel⟩, List.mem_of_getElem? (i := 882) (by decide +kernel), List.mem_of_getElem? (i := 1331) (by decide +kernel), List.mem_of_getElem? (i := 1332) (by decide +kernel)⟩
theorem lw_p109 : lw_okq (⟨"ClocksToldModel", "lowest", "(III)J"⟩, 66) := ⟨⟨by decide +kernel, by decide +kernel⟩, List.mem_of_getElem? (i := 882) (by decide +kernel), List.mem_of_getElem? (i := 1344) (by decide +kernel), List.mem_of_getElem? (i := 1345) (by decide +kernel)⟩
theorem lw_p110 : lw_okq (⟨"ClocksToldModel", "divisor", "(II)I"⟩, 66) := ⟨⟨by decide +kernel, by decide +kernel⟩, List.mem_of_getElem? (i := 882) (by decide +kernel), List.mem_of_getElem? (i := 1348) (by decide +kernel), List.mem_of_getElem? (i := 1349) (by decide +kernel)⟩
theorem lw_p111 : lw_okq (⟨"ClocksToldModel", "isTape", "(I)Z"⟩, 66) := ⟨⟨by decide +kernel, by decide +kernel⟩, List.mem_of_getElem? (i := 882) (by decide +kernel), List.mem_of_getElem? (i := 1376) (by decide +kernel), List.mem_of_getElem? (i := 1377) (by decide +kernel)⟩
def lw_privs_7 : List (MethodName × Nat) := [(⟨"ClocksToldModel", "left", "(I)I"⟩, 66), (⟨"ClocksToldModel", "minded", "(I)I"⟩, 66), (⟨"ClocksToldModel", "whole", "(I)I"⟩, 66), (⟨"ClocksToldModel", "save", "()V"⟩, 66), (⟨"ClocksToldModel", "putBack", "()V"⟩, 66), (⟨"ClocksToldModel", "upMany", "()I"⟩, 66), (⟨"ClocksToldModel", "allLeft", "()I"⟩, 66), (⟨"ClocksToldModel", "goEvenings", "(II)V"⟩, 66), (⟨"ClocksToldModel", "layNews", "()V"⟩, 66), (⟨"ClocksToldModel", "layTurn", "(I)Z"⟩, 66), (⟨"ClocksToldModel", "goTurn", "()I"⟩, 66), (⟨"ClocksToldModel", "goWhole", "(I)I"⟩, 66), (⟨"ClocksToldModel", "isSeen", "(I)Z"⟩, 66), (⟨"ClocksToldModel", "lowest", "(III)J"⟩, 66), (⟨"ClocksToldModel", "divisor", "(II)I"⟩, 66), (⟨"ClocksToldModel", "isTape", "(I)Z"⟩, 66)]
theorem lw_r7 : ∀ q ∈ lw_privs_7, lw_okq q := List.forall_mem_cons.mpr ⟨lw_p96, List.forall_mem_cons.mpr ⟨lw_p97, List.forall_mem_cons.mpr ⟨lw_p98, List.forall_mem_cons.mpr ⟨lw_p99, List.forall_mem_cons.mpr ⟨lw_p100, List.forall_mem_cons.mpr ⟨lw_p101, List.forall_mem_cons.mpr ⟨lw_p102, List.forall_mem_cons.mpr ⟨lw_p103, List.forall_mem_cons.mpr ⟨lw_p104, List.forall_mem_cons.mpr ⟨lw_p105, List.forall_mem_cons.mpr ⟨lw_p106, List.forall_mem_cons.mpr ⟨lw_p107, List.forall_mem_cons.mpr ⟨lw_p108, List.forall_mem_cons.mpr ⟨lw_p109, List.forall_mem_cons.mpr ⟨lw_p110, List.forall_mem_cons.mpr ⟨lw_p111, fun _ h => absurd h List.not_mem_nil⟩⟩⟩⟩⟩⟩⟩⟩⟩⟩⟩⟩⟩⟩⟩⟩
theorem lw_p112 : lw_okq (⟨"ClocksToldModel", "ticksAct", "(II)I"⟩, 66) := ⟨⟨by decide +kernel, by decide +kernel⟩, List.mem_of_getElem? (i := 882) (by decide +kernel), List.mem_of_getElem? (i := 1392) (by decide +kernel), List.mem_of_getElem? (i := 1393) (by decide +kernel)⟩
theorem lw_p113 : lw_okq (⟨"ClocksToldModel", "body", "(I)V"⟩, 66) := ⟨⟨by decide +kernel, by decide +kernel⟩, List.mem_of_getElem? (i := 882) (by decide +kernel), List.mem_of_getElem? (i := 1396) (by decide +kernel), List.mem_of_getElem? (i := 1397) (by decide +kernel)⟩
theorem lw_p114 : lw_okq (⟨"ClocksToldModel", "clockTicks", "(II)I"⟩, 66) := ⟨⟨by decide +kernel, by decide +kernel⟩, List.mem_of_getElem? (i := 882) (by decide +kernel), List.mem_of_getElem? (i := 1400) (by decide +kernel), List.mem_of_getElem? (i := 1401) (by decide +kernel)⟩
theorem lw_p115 : lw_okq (⟨"ClocksToldModel", "strikesAct", "(II)I"⟩, 66) := ⟨⟨by decide +kernel, by decide +kernel⟩, List.mem_of_getElem? (i := 882) (by decide +kernel), List.mem_of_getElem? (i := 1404) (by decide +kernel), List.mem_of_getElem? (i := 1405) (by decide +kernel)⟩
theorem lw_p116 : lw_okq (⟨"ClocksToldModel", "fastStrikes", "(II)I"⟩, 66) := ⟨⟨by decide +kernel, by decide +kernel⟩, List.mem_of_getElem? (i := 882) (by decide +kernel), List.mem_of_getElem? (i := 1408) (by decide +kernel), List.mem_of_getElem? (i := 1409) (by decide +kernel)⟩
theorem lw_p117 : lw_okq (⟨"ClocksToldModel", "clockStrikes", "(II)I"⟩, 66) := ⟨⟨by decide +kernel, by decide +kernel⟩, List.mem_of_getElem? (i := 882) (by decide +kernel), List.mem_of_getElem? (i := 1412) (by decide +kernel), List.mem_of_getElem? (i := 1413) (by decide +kernel)⟩
theorem lw_p118 : lw_okq (⟨"ClocksToldModel", "tellsAct", "(II)I"⟩, 66) := ⟨⟨by decide +kernel, by decide +kernel⟩, List.mem_of_getElem? (i := 882) (by decide +kernel), List.mem_of_getElem? (i := 1416) (by decide +kernel), List.mem_of_getElem? (i := 1417) (by decide +kernel)⟩
theorem lw_p119 : lw_okq (⟨"ClocksToldModel", "clockTells", "(II)I"⟩, 66) := ⟨⟨by decide +kernel, by decide +kernel⟩, List.mem_of_getElem? (i := 882) (by decide +kernel), List.mem_of_getElem? (i := 1420) (by decide +kernel), List.mem_of_getElem? (i := 1421) (by decide +kernel)⟩
theorem lw_p120 : lw_okq (⟨"ClocksToldModel", "narrow", "(IJ)J"⟩, 66) := ⟨⟨by decide +kernel, by decide +kernel⟩, List.mem_of_getElem? (i := 882) (by decide +kernel), List.mem_of_getElem? (i := 1444) (by decide +kernel), List.mem_of_getElem? (i := 1445) (by decide +kernel)⟩
def lw_privs_8 : List (MethodName × Nat) := [(⟨"ClocksToldModel", "ticksAct", "(II)I"⟩, 66), (⟨"ClocksToldModel", "body", "(I)V"⟩, 66), (⟨"ClocksToldModel", "clockTicks", "(II)I"⟩, 66), (⟨"ClocksToldModel", "strikesAct", "(II)I"⟩, 66), (⟨"ClocksToldModel", "fastStrikes", "(II)I"⟩, 66), (⟨"ClocksToldModel", "clockStrikes", "(II)I"⟩, 66), (⟨"ClocksToldModel", "tellsAct", "(II)I"⟩, 66), (⟨"ClocksToldModel", "clockTells", "(II)I"⟩, 66), (⟨"ClocksToldModel", "narrow", "(IJ)J"⟩, 66)]
theorem lw_r8 : ∀ q ∈ lw_privs_8, lw_okq q := List.forall_mem_cons.mpr ⟨lw_p112, List.forall_mem_cons.mpr ⟨lw_p113, List.forall_mem_cons.mpr ⟨lw_p114, List.forall_mem_cons.mpr ⟨lw_p115, List.forall_mem_cons.mpr ⟨lw_p116, List.forall_mem_cons.mpr ⟨lw_p117, List.forall_mem_cons.mpr ⟨lw_p118, List.forall_mem_cons.mpr ⟨lw_p119, List.forall_mem_cons.mpr ⟨lw_p120, fun _ h => absurd h List.not_mem_nil⟩⟩⟩⟩⟩⟩⟩⟩⟩
def lw_privs : List (MethodName × Nat) := lw_privs_1 ++ (lw_privs_2 ++ (lw_privs_3 ++ (lw_privs_4 ++ (lw_privs_5 ++ (lw_privs_6 ++ (lw_privs_7 ++ (lw_privs_8)))))))
def lw_tbl : List Cond := k2_sels lw_privs ++ tables_1
theorem lw_privs_ok : ∀ q ∈ lw_privs, lw_okq q := by
  show ∀ q ∈ lw_privs_1 ++ (lw_privs_2 ++ (lw_privs_3 ++ (lw_privs_4 ++ (lw_privs_5 ++ (lw_privs_6 ++ (lw_privs_7 ++ (lw_privs_8))))))), lw_okq q
  exact List.forall_mem_append.mpr ⟨lw_r1, List.forall_mem_append.mpr ⟨lw_r2, List.forall_mem_append.mpr ⟨lw_r3, List.forall_mem_append.mpr ⟨lw_r4, List.forall_mem_append.mpr ⟨lw_r5, List.forall_mem_append.mpr ⟨lw_r6, List.forall_mem_append.mpr ⟨lw_r7, lw_r8⟩⟩⟩⟩⟩⟩⟩

-- names: out of the printed names
def RX0 : String := "ClocksTold$Acts"
def TX0 : u_T := fun k => match k with
  | 0 => ("ClocksTold$Acts", "bodies", "[I", true)
  | 1 => ("ClocksTold$Acts", "ran", "I", false)
  | 2 => ("ClocksTold$Acts", "number", "I", false)
  | 3 => ("ClocksTold$Acts", "kind", "I", false)
  | _ => ("ClocksTold$Acts", "value", "I", false)
def tyX0 : Nat → FieldType := fun k => match k with
  | 0 => .array .int
  | 1 => .int
  | 2 => .int
  | 3 => .int
  | _ => .int
abbrev wsX00 : List Cond := u_ws RX0 TX0 5
theorem nmX0 : ∀ a, a < 5 → ∀ b, b < 5 → a ≠ b → (TX0 a).2.1 ≠ (TX0 b).2.1 := by decide +kernel
theorem tyX0_ok : ∀ k, k < 5 → parseFieldDescriptor (TX0 k).2.2.1 = some (tyX0 k) := by decide +kernel
abbrev cX0_init : ByteArray := prog_2_method_1_code
def yX0_init : MethodName := ⟨RX0, "<init>", "()V"⟩
abbrev cX0_start : ByteArray := prog_2_method_2_code
def yX0_start : MethodName := ⟨RX0, "start", "(IIIII)I"⟩
abbrev cX0_run : ByteArray := prog_2_method_3_code
def yX0_run : MethodName := ⟨RX0, "run", "(IIII)I"⟩
abbrev cX0_bodyFrom : ByteArray := prog_2_method_4_code
def yX0_bodyFrom : MethodName := ⟨RX0, "bodyFrom", "(II)I"⟩
abbrev cX0_note : ByteArray := prog_2_method_5_code
def yX0_note : MethodName := ⟨RX0, "note", "(I)V"⟩
def RX1 : String := "ClocksTold$Asker"
def TX1 : u_T := fun k => match k with
  | 0 => ("ClocksTold$Asker", "shop", "LClocksTold$Shop;", true)
  | 1 => ("ClocksTold$Asker", "course", "LClocksTold$Course;", true)
  | 2 => ("ClocksTold$Asker", "fitting", "I", false)
  | _ => ("ClocksTold$Asker", "least", "I", false)
def tyX1 : Nat → FieldType := fun k => match k with
  | 0 => .object "ClocksTold$Shop"
  | 1 => .object "ClocksTold$Course"
  | 2 => .int
  | _ => .int
abbrev wsX10 : List Cond := u_ws RX1 TX1 4
theorem nmX1 : ∀ a, a < 4 → ∀ b, b < 4 → a ≠ b → (TX1 a).2.1 ≠ (TX1 b).2.1 := by decide +kernel
theorem tyX1_ok : ∀ k, k < 4 → parseFieldDescriptor (TX1 k).2.2.1 = some (tyX1 k) := by decide +kernel
abbrev cX1_init : ByteArray := prog_3_method_1_code
def yX1_init : MethodName := ⟨RX1, "<init>", "(LClocksTold$Shop;)V"⟩
abbrev cX1_begin : ByteArray := prog_3_method_2_code
def yX1_begin : MethodName := ⟨RX1, "begin", "()V"⟩
abbrev cX1_tellOften : ByteArray := prog_3_method_3_code
def yX1_tellOften : MethodName := ⟨RX1, "tellOften", "(II)V"⟩
abbrev cX1_behind : ByteArray := prog_3_method_4_code
def yX1_behind : MethodName := ⟨RX1, "behind", "(III)I"⟩
abbrev cX1_whole : ByteArray := prog_3_method_5_code
def yX1_whole : MethodName := ⟨RX1, "whole", "(I)I"⟩
abbrev cX1_minded : ByteArray := prog_3_method_6_code
def yX1_minded : MethodName := ⟨RX1, "minded", "(I)I"⟩
abbrev cX1_bestNext : ByteArray := prog_3_method_7_code
def yX1_bestNext : MethodName := ⟨RX1, "bestNext", "()I"⟩
abbrev cX1_howManyUpBehind : ByteArray := prog_3_method_8_code
def yX1_howManyUpBehind : MethodName := ⟨RX1, "howManyUpBehind", "(I)I"⟩
abbrev cX1_monthEnds : ByteArray := prog_3_method_9_code
def yX1_monthEnds : MethodName := ⟨RX1, "monthEnds", "(I)I"⟩
abbrev cX1_weighDays : ByteArray := prog_3_method_10_code
def yX1_weighDays : MethodName := ⟨RX1, "weighDays", "(I)V"⟩
abbrev cX1_weighValues : ByteArray := prog_3_method_11_code
def yX1_weighValues : MethodName := ⟨RX1, "weighValues", "(I)V"⟩
abbrev cX1_weighNothing : ByteArray := prog_3_method_12_code
def yX1_weighNothing : MethodName := ⟨RX1, "weighNothing", "()V"⟩
abbrev cX1_weigh : ByteArray := prog_3_method_13_code
def yX1_weigh : MethodName := ⟨RX1, "weigh", "(III)V"⟩
abbrev cX1_isSo : ByteArray := prog_3_method_14_code
def yX1_isSo : MethodName := ⟨RX1, "isSo", "(III)Z"⟩
def RX2 : String := "ClocksTold$Bench"
def TX2 : u_T := fun k => match k with
  | 0 => ("ClocksTold$Bench", "pace", "I", false)
  | 1 => ("ClocksTold$Bench", "clauses", "I", false)
  | 2 => ("ClocksTold$Bench", "weights", "[I", true)
  | 3 => ("ClocksTold$Bench", "ends", "[I", true)
  | 4 => ("ClocksTold$Bench", "stepCount", "I", false)
  | _ => ("ClocksTold$Bench", "steps", "[I", true)
def tyX2 : Nat → FieldType := fun k => match k with
  | 0 => .int
  | 1 => .int
  | 2 => .array .int
  | 3 => .array .int
  | 4 => .int
  | _ => .array .int
abbrev wsX20 : List Cond := u_ws RX2 TX2 6
theorem nmX2 : ∀ a, a < 6 → ∀ b, b < 6 → a ≠ b → (TX2 a).2.1 ≠ (TX2 b).2.1 := by decide +kernel
theorem tyX2_ok : ∀ k, k < 6 → parseFieldDescriptor (TX2 k).2.2.1 = some (tyX2 k) := by decide +kernel
abbrev cX2_init : ByteArray := prog_4_method_1_code
def yX2_init : MethodName := ⟨RX2, "<init>", "()V"⟩
abbrev cX2_clear : ByteArray := prog_4_method_2_code
def yX2_clear : MethodName := ⟨RX2, "clear", "()V"⟩
abbrev cX2_addStep : ByteArray := prog_4_method_3_code
def yX2_addStep : MethodName := ⟨RX2, "addStep", "(I)V"⟩
abbrev cX2_addClause : ByteArray := prog_4_method_4_code
def yX2_addClause : MethodName := ⟨RX2, "addClause", "(I)V"⟩
abbrev cX2_newsBy : ByteArray := prog_4_method_5_code
def yX2_newsBy : MethodName := ⟨RX2, "newsBy", "([I)I"⟩
abbrev cX2_isTrue : ByteArray := prog_4_method_6_code
def yX2_isTrue : MethodName := ⟨RX2, "isTrue", "(II[I)Z"⟩
abbrev cX2_testStep : ByteArray := prog_4_method_7_code
def yX2_testStep : MethodName := ⟨RX2, "testStep", "(III)I"⟩
abbrev cX2_passes : ByteArray := prog_4_method_8_code
def yX2_passes : MethodName := ⟨RX2, "passes", "(I[I)Z"⟩
def RX3 : String := "ClocksTold$Course"
def TX3 : u_T := fun k => match k with
  | 0 => ("ClocksTold$Course", "today", "I", false)
  | 1 => ("ClocksTold$Course", "heard", "[I", true)
  | _ => ("ClocksTold$Course", "balks", "[Z", true)
def tyX3 : Nat → FieldType := fun k => match k with
  | 0 => .int
  | 1 => .array .int
  | _ => .array .boolean
abbrev wsX30 : List Cond := u_ws RX3 TX3 3
theorem nmX3 : ∀ a, a < 3 → ∀ b, b < 3 → a ≠ b → (TX3 a).2.1 ≠ (TX3 b).2.1 := by decide +kernel
theorem tyX3_ok : ∀ k, k < 3 → parseFieldDescriptor (TX3 k).2.2.1 = some (tyX3 k) := by decide +kernel
abbrev cX3_init : ByteArray := prog_5_method_1_code
def yX3_init : MethodName := ⟨RX3, "<init>", "()V"⟩
abbrev cX3_copyFrom : ByteArray := prog_5_method_2_code
def yX3_copyFrom : MethodName := ⟨RX3, "copyFrom", "(LClocksTold$Course;)V"⟩
abbrev cX3_isUp : ByteArray := prog_5_method_3_code
def yX3_isUp : MethodName := ⟨RX3, "isUp", "(I)Z"⟩
def RX4 : String := "ClocksTold$Planner"
def TX4 : u_T := fun k => match k with
  | 0 => ("ClocksTold$Planner", "shop", "LClocksTold$Shop;", true)
  | 1 => ("ClocksTold$Planner", "courses", "[LClocksTold$Course;", true)
  | 2 => ("ClocksTold$Planner", "row", "[I", true)
  | 3 => ("ClocksTold$Planner", "bestRow", "[I", true)
  | _ => ("ClocksTold$Planner", "best", "I", false)
def tyX4 : Nat → FieldType := fun k => match k with
  | 0 => .object "ClocksTold$Shop"
  | 1 => .array (.object "ClocksTold$Course")
  | 2 => .array .int
  | 3 => .array .int
  | _ => .int
abbrev wsX40 : List Cond := u_ws RX4 TX4 5
theorem nmX4 : ∀ a, a < 5 → ∀ b, b < 5 → a ≠ b → (TX4 a).2.1 ≠ (TX4 b).2.1 := by decide +kernel
theorem tyX4_ok : ∀ k, k < 5 → parseFieldDescriptor (TX4 k).2.2.1 = some (tyX4 k) := by decide +kernel
abbrev cX4_init : ByteArray := prog_6_method_1_code
def yX4_init : MethodName := ⟨RX4, "<init>", "(LClocksTold$Shop;)V"⟩
abbrev cX4_findOrder : ByteArray := prog_6_method_2_code
def yX4_findOrder : MethodName := ⟨RX4, "findOrder", "()V"⟩
abbrev cX4_tryOrders : ByteArray := prog_6_method_3_code
def yX4_tryOrders : MethodName := ⟨RX4, "tryOrders", "(III)V"⟩
abbrev cX4_turn : ByteArray := prog_6_method_4_code
def yX4_turn : MethodName := ⟨RX4, "turn", "(LClocksTold$Course;I)I"⟩
abbrev cX4_findRow : ByteArray := prog_6_method_5_code
def yX4_findRow : MethodName := ⟨RX4, "findRow", "(I)V"⟩
abbrev cX4_tryRows : ByteArray := prog_6_method_6_code
def yX4_tryRows : MethodName := ⟨RX4, "tryRows", "(II)V"⟩
abbrev cX4_keep : ByteArray := prog_6_method_7_code
def yX4_keep : MethodName := ⟨RX4, "keep", "(I)V"⟩
def RX5 : String := "ClocksTold$Reader"
def TX5 : u_T := fun k => match k with
  | 0 => ("ClocksTold$Reader", "text", "[B", true)
  | 1 => ("ClocksTold$Reader", "length", "I", false)
  | 2 => ("ClocksTold$Reader", "place", "I", false)
  | 3 => ("ClocksTold$Reader", "sign", "I", false)
  | 4 => ("ClocksTold$Reader", "failed", "Z", false)
  | _ => ("ClocksTold$Reader", "bench", "LClocksTold$Bench;", false)
def tyX5 : Nat → FieldType := fun k => match k with
  | 0 => .array .byte
  | 1 => .int
  | 2 => .int
  | 3 => .int
  | 4 => .boolean
  | _ => .object "ClocksTold$Bench"
abbrev wsX50 : List Cond := u_ws RX5 TX5 6
theorem nmX5 : ∀ a, a < 6 → ∀ b, b < 6 → a ≠ b → (TX5 a).2.1 ≠ (TX5 b).2.1 := by decide +kernel
theorem tyX5_ok : ∀ k, k < 6 → parseFieldDescriptor (TX5 k).2.2.1 = some (tyX5 k) := by decide +kernel
abbrev cX5_init : ByteArray := prog_7_method_1_code
def yX5_init : MethodName := ⟨RX5, "<init>", "()V"⟩
abbrev cX5_take : ByteArray := prog_7_method_2_code
def yX5_take : MethodName := ⟨RX5, "take", "(B)Z"⟩
abbrev cX5_readInto : ByteArray := prog_7_method_3_code
def yX5_readInto : MethodName := ⟨RX5, "readInto", "(LClocksTold$Bench;)Z"⟩
abbrev cX5_step : ByteArray := prog_7_method_4_code
def yX5_step : MethodName := ⟨RX5, "step", "()V"⟩
abbrev cX5_need : ByteArray := prog_7_method_5_code
def yX5_need : MethodName := ⟨RX5, "need", "(C)V"⟩
abbrev cX5_word : ByteArray := prog_7_method_6_code
def yX5_word : MethodName := ⟨RX5, "word", "(Ljava/lang/String;)V"⟩
abbrev cX5_clause : ByteArray := prog_7_method_7_code
def yX5_clause : MethodName := ⟨RX5, "clause", "()V"⟩
abbrev cX5_number : ByteArray := prog_7_method_8_code
def yX5_number : MethodName := ⟨RX5, "number", "()I"⟩
abbrev cX5_isDigit : ByteArray := prog_7_method_9_code
def yX5_isDigit : MethodName := ⟨RX5, "isDigit", "()Z"⟩
abbrev cX5_either : ByteArray := prog_7_method_10_code
def yX5_either : MethodName := ⟨RX5, "either", "(I)V"⟩
abbrev cX5_both : ByteArray := prog_7_method_11_code
def yX5_both : MethodName := ⟨RX5, "both", "(I)V"⟩
abbrev cX5_factor : ByteArray := prog_7_method_12_code
def yX5_factor : MethodName := ⟨RX5, "factor", "(I)V"⟩
abbrev cX5_choice : ByteArray := prog_7_method_13_code
def yX5_choice : MethodName := ⟨RX5, "choice", "(Ljava/lang/String;)I"⟩
def RX6 : String := "ClocksTold$Rows"
def TX6 : u_T := fun k => match k with
  | 0 => ("ClocksTold$Rows", "limit", "I", true)
  | 1 => ("ClocksTold$Rows", "cells", "[I", true)
  | _ => ("ClocksTold$Rows", "count", "I", false)
def tyX6 : Nat → FieldType := fun k => match k with
  | 0 => .int
  | 1 => .array .int
  | _ => .int
abbrev wsX60 : List Cond := u_ws RX6 TX6 3
theorem nmX6 : ∀ a, a < 3 → ∀ b, b < 3 → a ≠ b → (TX6 a).2.1 ≠ (TX6 b).2.1 := by decide +kernel
theorem tyX6_ok : ∀ k, k < 3 → parseFieldDescriptor (TX6 k).2.2.1 = some (tyX6 k) := by decide +kernel
abbrev cX6_init : ByteArray := prog_8_method_1_code
def yX6_init : MethodName := ⟨RX6, "<init>", "(I)V"⟩
abbrev cX6_empty : ByteArray := prog_8_method_2_code
def yX6_empty : MethodName := ⟨RX6, "empty", "()I"⟩
abbrev cX6_put : ByteArray := prog_8_method_3_code
def yX6_put : MethodName := ⟨RX6, "put", "(III)I"⟩
abbrev cX6_cell : ByteArray := prog_8_method_4_code
def yX6_cell : MethodName := ⟨RX6, "cell", "(II)I"⟩
abbrev cX6_copyFrom : ByteArray := prog_8_method_5_code
def yX6_copyFrom : MethodName := ⟨RX6, "copyFrom", "(LClocksTold$Rows;)V"⟩
def RX7 : String := "ClocksTold$Shop"
def TX7 : u_T := fun k => match k with
  | 0 => ("ClocksTold$Shop", "clocks", "I", false)
  | 1 => ("ClocksTold$Shop", "kinds", "[I", true)
  | 2 => ("ClocksTold$Shop", "values", "[I", true)
  | 3 => ("ClocksTold$Shop", "rows", "[I", true)
  | 4 => ("ClocksTold$Shop", "sums", "[I", true)
  | 5 => ("ClocksTold$Shop", "now", "LClocksTold$Course;", true)
  | 6 => ("ClocksTold$Shop", "seen", "LClocksTold$Rows;", true)
  | 7 => ("ClocksTold$Shop", "month", "LClocksTold$Rows;", true)
  | 8 => ("ClocksTold$Shop", "book", "LClocksTold$Rows;", true)
  | 9 => ("ClocksTold$Shop", "worth", "[I", true)
  | _ => ("ClocksTold$Shop", "bench", "LClocksTold$Bench;", false)
def tyX7 : Nat → FieldType := fun k => match k with
  | 0 => .int
  | 1 => .array .int
  | 2 => .array .int
  | 3 => .array .int
  | 4 => .array .int
  | 5 => .object "ClocksTold$Course"
  | 6 => .object "ClocksTold$Rows"
  | 7 => .object "ClocksTold$Rows"
  | 8 => .object "ClocksTold$Rows"
  | 9 => .array .int
  | _ => .object "ClocksTold$Bench"
abbrev wsX70 : List Cond := u_ws RX7 TX7 11
theorem nmX7 : ∀ a, a < 11 → ∀ b, b < 11 → a ≠ b → (TX7 a).2.1 ≠ (TX7 b).2.1 := by decide +kernel
theorem tyX7_ok : ∀ k, k < 11 → parseFieldDescriptor (TX7 k).2.2.1 = some (tyX7 k) := by decide +kernel
abbrev cX7_init : ByteArray := prog_9_method_1_code
def yX7_init : MethodName := ⟨RX7, "<init>", "()V"⟩
abbrev cX7_copyFrom : ByteArray := prog_9_method_2_code
def yX7_copyFrom : MethodName := ⟨RX7, "copyFrom", "(LClocksTold$Shop;)V"⟩
abbrev cX7_enter : ByteArray := prog_9_method_3_code
def yX7_enter : MethodName := ⟨RX7, "enter", "(III)I"⟩
abbrev cX7_hold : ByteArray := prog_9_method_4_code
def yX7_hold : MethodName := ⟨RX7, "hold", "(LClocksTold$Bench;)V"⟩
abbrev cX7_pace : ByteArray := prog_9_method_5_code
def yX7_pace : MethodName := ⟨RX7, "pace", "()I"⟩
abbrev cX7_learn : ByteArray := prog_9_method_6_code
def yX7_learn : MethodName := ⟨RX7, "learn", "(I)V"⟩
abbrev cX7_newsOf : ByteArray := prog_9_method_7_code
def yX7_newsOf : MethodName := ⟨RX7, "newsOf", "(II)I"⟩
abbrev cX7_newsAhead : ByteArray := prog_9_method_8_code
def yX7_newsAhead : MethodName := ⟨RX7, "newsAhead", "(II)I"⟩
abbrev cX7_leftOf : ByteArray := prog_9_method_9_code
def yX7_leftOf : MethodName := ⟨RX7, "leftOf", "(LClocksTold$Course;I)I"⟩
abbrev cX7_leftOfAll : ByteArray := prog_9_method_10_code
def yX7_leftOfAll : MethodName := ⟨RX7, "leftOfAll", "(LClocksTold$Course;)I"⟩
abbrev cX7_howManyUp : ByteArray := prog_9_method_11_code
def yX7_howManyUp : MethodName := ⟨RX7, "howManyUp", "(LClocksTold$Course;)I"⟩
abbrev cX7_holds : ByteArray := prog_9_method_12_code
def yX7_holds : MethodName := ⟨RX7, "holds", "(II)I"⟩
abbrev cX7_minds : ByteArray := prog_9_method_13_code
def yX7_minds : MethodName := ⟨RX7, "minds", "(II)Z"⟩
abbrev cX7_evening : ByteArray := prog_9_method_14_code
def yX7_evening : MethodName := ⟨RX7, "evening", "(LClocksTold$Course;I)I"⟩
abbrev cX7_night : ByteArray := prog_9_method_15_code
def yX7_night : MethodName := ⟨RX7, "night", "(LClocksTold$Course;)V"⟩
def RX8 : String := "ClocksTold$Tape"
def TX8 : u_T := fun k => match k with
  | 0 => ("ClocksTold$Tape", "sort", "I", false)
  | 1 => ("ClocksTold$Tape", "length", "I", false)
  | _ => ("ClocksTold$Tape", "items", "[J", true)
def tyX8 : Nat → FieldType := fun k => match k with
  | 0 => .int
  | 1 => .int
  | _ => .array .long
abbrev wsX80 : List Cond := u_ws RX8 TX8 3
theorem nmX8 : ∀ a, a < 3 → ∀ b, b < 3 → a ≠ b → (TX8 a).2.1 ≠ (TX8 b).2.1 := by decide +kernel
theorem tyX8_ok : ∀ k, k < 3 → parseFieldDescriptor (TX8 k).2.2.1 = some (tyX8 k) := by decide +kernel
abbrev cX8_init : ByteArray := prog_10_method_1_code
def yX8_init : MethodName := ⟨RX8, "<init>", "()V"⟩
abbrev cX8_become : ByteArray := prog_10_method_2_code
def yX8_become : MethodName := ⟨RX8, "become", "(II)V"⟩
abbrev cX8_has : ByteArray := prog_10_method_3_code
def yX8_has : MethodName := ⟨RX8, "has", "(I)Z"⟩
abbrev cX8_hasRun : ByteArray := prog_10_method_4_code
def yX8_hasRun : MethodName := ⟨RX8, "hasRun", "(II)Z"⟩
abbrev cX8_cut : ByteArray := prog_10_method_5_code
def yX8_cut : MethodName := ⟨RX8, "cut", "(J)J"⟩
def RX9 : String := "ClocksTold"
def TX9 : u_T := fun k => match k with
  | 0 => ("ClocksTold", "shop", "LClocksTold$Shop;", true)
  | 1 => ("ClocksTold", "image", "LClocksTold$Shop;", true)
  | 2 => ("ClocksTold", "imaged", "Z", false)
  | 3 => ("ClocksTold", "reader", "LClocksTold$Reader;", true)
  | 4 => ("ClocksTold", "benches", "[LClocksTold$Bench;", true)
  | 5 => ("ClocksTold", "benchCount", "I", false)
  | 6 => ("ClocksTold", "asker", "LClocksTold$Asker;", true)
  | 7 => ("ClocksTold", "planner", "LClocksTold$Planner;", true)
  | 8 => ("ClocksTold", "acts", "LClocksTold$Acts;", true)
  | _ => ("ClocksTold", "tapes", "[LClocksTold$Tape;", true)
def tyX9 : Nat → FieldType := fun k => match k with
  | 0 => .object "ClocksTold$Shop"
  | 1 => .object "ClocksTold$Shop"
  | 2 => .boolean
  | 3 => .object "ClocksTold$Reader"
  | 4 => .array (.object "ClocksTold$Bench")
  | 5 => .int
  | 6 => .object "ClocksTold$Asker"
  | 7 => .object "ClocksTold$Planner"
  | 8 => .object "ClocksTold$Acts"
  | _ => .array (.object "ClocksTold$Tape")
abbrev wsX90 : List Cond := u_ws RX9 TX9 10
theorem nmX9 : ∀ a, a < 10 → ∀ b, b < 10 → a ≠ b → (TX9 a).2.1 ≠ (TX9 b).2.1 := by decide +kernel
theorem tyX9_ok : ∀ k, k < 10 → parseFieldDescriptor (TX9 k).2.2.1 = some (tyX9 k) := by decide +kernel
abbrev cX9_init : ByteArray := prog_1_method_1_code
def yX9_init : MethodName := ⟨RX9, "<init>", "()V"⟩
abbrev cX9_clock : ByteArray := prog_1_method_2_code
def yX9_clock : MethodName := ⟨RX9, "clock", "(III)I"⟩
abbrev cX9_of : ByteArray := prog_1_method_3_code
def yX9_of : MethodName := ⟨RX9, "of", "(II)I"⟩
abbrev cX9_news : ByteArray := prog_1_method_4_code
def yX9_news : MethodName := ⟨RX9, "news", "(II)I"⟩
abbrev cX9_set : ByteArray := prog_1_method_5_code
def yX9_set : MethodName := ⟨RX9, "set", "(II)I"⟩
abbrev cX9_balk : ByteArray := prog_1_method_6_code
def yX9_balk : MethodName := ⟨RX9, "balk", "(IZ)I"⟩
abbrev cX9_row : ByteArray := prog_1_method_7_code
def yX9_row : MethodName := ⟨RX9, "row", "(III)I"⟩
abbrev cX9_feed : ByteArray := prog_1_method_8_code
def yX9_feed : MethodName := ⟨RX9, "feed", "(I)I"⟩
abbrev cX9_bench : ByteArray := prog_1_method_9_code
def yX9_bench : MethodName := ⟨RX9, "bench", "()I"⟩
abbrev cX9_told : ByteArray := prog_1_method_10_code
def yX9_told : MethodName := ⟨RX9, "told", "(I)I"⟩
abbrev cX9_tell : ByteArray := prog_1_method_11_code
def yX9_tell : MethodName := ⟨RX9, "tell", "(I)I"⟩
abbrev cX9_pass : ByteArray := prog_1_method_12_code
def yX9_pass : MethodName := ⟨RX9, "pass", "(I)I"⟩
abbrev cX9_on : ByteArray := prog_1_method_13_code
def yX9_on : MethodName := ⟨RX9, "on", "(III)I"⟩
abbrev cX9_soonest : ByteArray := prog_1_method_14_code
def yX9_soonest : MethodName := ⟨RX9, "soonest", "(I)I"⟩
abbrev cX9_most : ByteArray := prog_1_method_15_code
def yX9_most : MethodName := ⟨RX9, "most", "(II)I"⟩
abbrev cX9_next : ByteArray := prog_1_method_16_code
def yX9_next : MethodName := ⟨RX9, "next", "()I"⟩
abbrev cX9_see : ByteArray := prog_1_method_17_code
def yX9_see : MethodName := ⟨RX9, "see", "(III)I"⟩
abbrev cX9_since : ByteArray := prog_1_method_18_code
def yX9_since : MethodName := ⟨RX9, "since", "(II)I"⟩
abbrev cX9_can : ByteArray := prog_1_method_19_code
def yX9_can : MethodName := ⟨RX9, "can", "(II)I"⟩
abbrev cX9_odds : ByteArray := prog_1_method_20_code
def yX9_odds : MethodName := ⟨RX9, "odds", "(II)J"⟩
abbrev cX9_mean : ByteArray := prog_1_method_21_code
def yX9_mean : MethodName := ⟨RX9, "mean", "(I)J"⟩
abbrev cX9_month : ByteArray := prog_1_method_22_code
def yX9_month : MethodName := ⟨RX9, "month", "(I)I"⟩
abbrev cX9_ends : ByteArray := prog_1_method_23_code
def yX9_ends : MethodName := ⟨RX9, "ends", "(I)I"⟩
abbrev cX9_book : ByteArray := prog_1_method_24_code
def yX9_book : MethodName := ⟨RX9, "book", "(II)I"⟩
abbrev cX9_looked : ByteArray := prog_1_method_25_code
def yX9_looked : MethodName := ⟨RX9, "looked", "()I"⟩
abbrev cX9_judge : ByteArray := prog_1_method_26_code
def yX9_judge : MethodName := ⟨RX9, "judge", "(II)I"⟩
abbrev cX9_image : ByteArray := prog_1_method_27_code
def yX9_image : MethodName := ⟨RX9, "image", "()I"⟩
abbrev cX9_undo : ByteArray := prog_1_method_28_code
def yX9_undo : MethodName := ⟨RX9, "undo", "()I"⟩
abbrev cX9_act : ByteArray := prog_1_method_29_code
def yX9_act : MethodName := ⟨RX9, "act", "(III)I"⟩
abbrev cX9_trace : ByteArray := prog_1_method_30_code
def yX9_trace : MethodName := ⟨RX9, "trace", "(I)I"⟩
abbrev cX9_taken : ByteArray := prog_1_method_31_code
def yX9_taken : MethodName := ⟨RX9, "taken", "(II)I"⟩
abbrev cX9_count : ByteArray := prog_1_method_32_code
def yX9_count : MethodName := ⟨RX9, "count", "(I)I"⟩
abbrev cX9_tape : ByteArray := prog_1_method_33_code
def yX9_tape : MethodName := ⟨RX9, "tape", "(III)I"⟩
abbrev cX9_item : ByteArray := prog_1_method_34_code
def yX9_item : MethodName := ⟨RX9, "item", "(IIJ)I"⟩
abbrev cX9_read : ByteArray := prog_1_method_35_code
def yX9_read : MethodName := ⟨RX9, "read", "(II)J"⟩
abbrev cX9_shift : ByteArray := prog_1_method_36_code
def yX9_shift : MethodName := ⟨RX9, "shift", "(IIIII)I"⟩
abbrev cX9_isClock : ByteArray := prog_1_method_37_code
def yX9_isClock : MethodName := ⟨RX9, "isClock", "(I)Z"⟩
abbrev cX9_isTape : ByteArray := prog_1_method_38_code
def yX9_isTape : MethodName := ⟨RX9, "isTape", "(I)Z"⟩
abbrev cX9_within : ByteArray := prog_1_method_39_code
def yX9_within : MethodName := ⟨RX9, "within", "(III)Z"⟩
abbrev cX9_isUnder : ByteArray := prog_1_method_40_code
def yX9_isUnder : MethodName := ⟨RX9, "isUnder", "(II)Z"⟩
abbrev cX9_lowest : ByteArray := prog_1_method_41_code
def yX9_lowest : MethodName := ⟨RX9, "lowest", "(III)J"⟩
abbrev cX9_commonDivisor : ByteArray := prog_1_method_42_code
def yX9_commonDivisor : MethodName := ⟨RX9, "commonDivisor", "(II)I"⟩
def RX10 : String := "ClocksToldModel"
def TX10 : u_T := fun k => match k with
  | 0 => ("ClocksToldModel", "clocks", "I", false)
  | 1 => ("ClocksToldModel", "balked", "I", false)
  | 2 => ("ClocksToldModel", "today", "I", false)
  | 3 => ("ClocksToldModel", "kind", "[I", true)
  | 4 => ("ClocksToldModel", "v", "[I", true)
  | 5 => ("ClocksToldModel", "heard", "[I", true)
  | 6 => ("ClocksToldModel", "rows", "[I", true)
  | 7 => ("ClocksToldModel", "benches", "I", false)
  | 8 => ("ClocksToldModel", "the", "I", false)
  | 9 => ("ClocksToldModel", "fed", "I", false)
  | 10 => ("ClocksToldModel", "at", "I", false)
  | 11 => ("ClocksToldModel", "digits", "I", false)
  | 12 => ("ClocksToldModel", "text", "[I", true)
  | 13 => ("ClocksToldModel", "clauses", "[I", true)
  | 14 => ("ClocksToldModel", "word", "[I", true)
  | 15 => ("ClocksToldModel", "number", "[I", true)
  | 16 => ("ClocksToldModel", "from", "[I", true)
  | 17 => ("ClocksToldModel", "to", "[I", true)
  | 18 => ("ClocksToldModel", "sign", "[I", true)
  | 19 => ("ClocksToldModel", "waits", "[I", true)
  | 20 => ("ClocksToldModel", "signs", "I", false)
  | 21 => ("ClocksToldModel", "waiting", "I", false)
  | 22 => ("ClocksToldModel", "open", "I", false)
  | 23 => ("ClocksToldModel", "letters", "[I", true)
  | 24 => ("ClocksToldModel", "pile", "[Z", true)
  | 25 => ("ClocksToldModel", "isLaid", "Z", false)
  | 26 => ("ClocksToldModel", "laid", "[I", true)
  | 27 => ("ClocksToldModel", "laidFrom", "[I", true)
  | 28 => ("ClocksToldModel", "keptBalked", "I", false)
  | 29 => ("ClocksToldModel", "keptToday", "I", false)
  | 30 => ("ClocksToldModel", "keptHeard", "[I", true)
  | 31 => ("ClocksToldModel", "turn", "[I", true)
  | 32 => ("ClocksToldModel", "bestTurn", "[I", true)
  | 33 => ("ClocksToldModel", "seen", "I", false)
  | 34 => ("ClocksToldModel", "seenWho", "[I", true)
  | 35 => ("ClocksToldModel", "seenMore", "[I", true)
  | 36 => ("ClocksToldModel", "seenWhen", "[I", true)
  | 37 => ("ClocksToldModel", "months", "I", false)
  | 38 => ("ClocksToldModel", "books", "I", false)
  | 39 => ("ClocksToldModel", "monthWho", "[I", true)
  | 40 => ("ClocksToldModel", "bookWho", "[I", true)
  | 41 => ("ClocksToldModel", "bookHeard", "[I", true)
  | 42 => ("ClocksToldModel", "hasImage", "Z", false)
  | 43 => ("ClocksToldModel", "imageThe", "I", false)
  | 44 => ("ClocksToldModel", "imageClocks", "I", false)
  | 45 => ("ClocksToldModel", "imageBalked", "I", false)
  | 46 => ("ClocksToldModel", "imageToday", "I", false)
  | 47 => ("ClocksToldModel", "imageSeen", "I", false)
  | 48 => ("ClocksToldModel", "imageMonths", "I", false)
  | 49 => ("ClocksToldModel", "imageBooks", "I", false)
  | 50 => ("ClocksToldModel", "imageKind", "[I", true)
  | 51 => ("ClocksToldModel", "imageV", "[I", true)
  | 52 => ("ClocksToldModel", "imageHeard", "[I", true)
  | 53 => ("ClocksToldModel", "imageRows", "[I", true)
  | 54 => ("ClocksToldModel", "imageSeenWho", "[I", true)
  | 55 => ("ClocksToldModel", "imageMore", "[I", true)
  | 56 => ("ClocksToldModel", "imageWhen", "[I", true)
  | 57 => ("ClocksToldModel", "imageWho", "[I", true)
  | 58 => ("ClocksToldModel", "imageBookWho", "[I", true)
  | 59 => ("ClocksToldModel", "imageBookHeard", "[I", true)
  | 60 => ("ClocksToldModel", "ran", "I", false)
  | 61 => ("ClocksToldModel", "bodies", "[I", true)
  | 62 => ("ClocksToldModel", "sort", "[I", true)
  | 63 => ("ClocksToldModel", "length", "[I", true)
  | 64 => ("ClocksToldModel", "item", "[J", true)
  | _ => ("ClocksToldModel", "aside", "[J", true)
def tyX10 : Nat → FieldType := fun k => match k with
  | 0 => .int
  | 1 => .int
  | 2 => .int
  | 3 => .array .int
  | 4 => .array .int
  | 5 => .array .int
  | 6 => .array .int
  | 7 => .int
  | 8 => .int
  | 9 => .int
  | 10 => .int
  | 11 => .int
  | 12 => .array .int
  | 13 => .array .int
  | 14 => .array .int
  | 15 => .array .int
  | 16 => .array .int
  | 17 => .array .int
  | 18 => .array .int
  | 19 => .array .int
  | 20 => .int
  | 21 => .int
  | 22 => .int
  | 23 => .array .int
  | 24 => .array .boolean
  | 25 => .boolean
  | 26 => .array .int
  | 27 => .array .int
  | 28 => .int
  | 29 => .int
  | 30 => .array .int
  | 31 => .array .int
  | 32 => .array .int
  | 33 => .int
  | 34 => .array .int
  | 35 => .array .int
  | 36 => .array .int
  | 37 => .int
  | 38 => .int
  | 39 => .array .int
  | 40 => .array .int
  | 41 => .array .int
  | 42 => .boolean
  | 43 => .int
  | 44 => .int
  | 45 => .int
  | 46 => .int
  | 47 => .int
  | 48 => .int
  | 49 => .int
  | 50 => .array .int
  | 51 => .array .int
  | 52 => .array .int
  | 53 => .array .int
  | 54 => .array .int
  | 55 => .array .int
  | 56 => .array .int
  | 57 => .array .int
  | 58 => .array .int
  | 59 => .array .int
  | 60 => .int
  | 61 => .array .int
  | 62 => .array .int
  | 63 => .array .int
  | 64 => .array .long
  | _ => .array .long
abbrev wsX100 : List Cond := u_ws RX10 TX10 66
theorem nmX10 : ∀ a, a < 66 → ∀ b, b < 66 → a ≠ b → (TX10 a).2.1 ≠ (TX10 b).2.1 := by decide +kernel
theorem tyX10_ok : ∀ k, k < 66 → parseFieldDescriptor (TX10 k).2.2.1 = some (tyX10 k) := by decide +kernel
abbrev cX10_init : ByteArray := prog_12_method_1_code
def yX10_init : MethodName := ⟨RX10, "<init>", "()V"⟩
abbrev cX10_in : ByteArray := prog_12_method_2_code
def yX10_in : MethodName := ⟨RX10, "in", "(III)Z"⟩
abbrev cX10_has : ByteArray := prog_12_method_3_code
def yX10_has : MethodName := ⟨RX10, "has", "(II)Z"⟩
abbrev cX10_isClock : ByteArray := prog_12_method_4_code
def yX10_isClock : MethodName := ⟨RX10, "isClock", "(I)Z"⟩
abbrev cX10_isEvenings : ByteArray := prog_12_method_5_code
def yX10_isEvenings : MethodName := ⟨RX10, "isEvenings", "(I)Z"⟩
abbrev cX10_isDay : ByteArray := prog_12_method_6_code
def yX10_isDay : MethodName := ⟨RX10, "isDay", "(I)Z"⟩
abbrev cX10_balks : ByteArray := prog_12_method_7_code
def yX10_balks : MethodName := ⟨RX10, "balks", "(IZ)V"⟩
abbrev cX10_clock : ByteArray := prog_12_method_8_code
def yX10_clock : MethodName := ⟨RX10, "clock", "(III)I"⟩
abbrev cX10_set : ByteArray := prog_12_method_9_code
def yX10_set : MethodName := ⟨RX10, "set", "(II)I"⟩
abbrev cX10_balk : ByteArray := prog_12_method_10_code
def yX10_balk : MethodName := ⟨RX10, "balk", "(IZ)I"⟩
abbrev cX10_row : ByteArray := prog_12_method_11_code
def yX10_row : MethodName := ⟨RX10, "row", "(III)I"⟩
abbrev cX10_feed : ByteArray := prog_12_method_12_code
def yX10_feed : MethodName := ⟨RX10, "feed", "(I)I"⟩
abbrev cX10_peek : ByteArray := prog_12_method_13_code
def yX10_peek : MethodName := ⟨RX10, "peek", "()I"⟩
abbrev cX10_takes : ByteArray := prog_12_method_14_code
def yX10_takes : MethodName := ⟨RX10, "takes", "(I)Z"⟩
abbrev cX10_takesWord : ByteArray := prog_12_method_15_code
def yX10_takesWord : MethodName := ⟨RX10, "takesWord", "(II)Z"⟩
abbrev cX10_isDigit : ByteArray := prog_12_method_16_code
def yX10_isDigit : MethodName := ⟨RX10, "isDigit", "()Z"⟩
abbrev cX10_takesNumber : ByteArray := prog_12_method_17_code
def yX10_takesNumber : MethodName := ⟨RX10, "takesNumber", "()Z"⟩
abbrev cX10_emits : ByteArray := prog_12_method_18_code
def yX10_emits : MethodName := ⟨RX10, "emits", "(I)V"⟩
abbrev cX10_whole : ByteArray := prog_12_method_19_code
def yX10_whole : MethodName := ⟨RX10, "whole", "()V"⟩
abbrev cX10_settle : ByteArray := prog_12_method_20_code
def yX10_settle : MethodName := ⟨RX10, "settle", "(I)V"⟩
abbrev cX10_place : ByteArray := prog_12_method_21_code
def yX10_place : MethodName := ⟨RX10, "place", "(I)I"⟩
abbrev cX10_takesTest : ByteArray := prog_12_method_22_code
def yX10_takesTest : MethodName := ⟨RX10, "takesTest", "()Z"⟩
abbrev cX10_takesE : ByteArray := prog_12_method_23_code
def yX10_takesE : MethodName := ⟨RX10, "takesE", "(I)Z"⟩
abbrev cX10_takesHead : ByteArray := prog_12_method_24_code
def yX10_takesHead : MethodName := ⟨RX10, "takesHead", "(I)Z"⟩
abbrev cX10_takesClause : ByteArray := prog_12_method_25_code
def yX10_takesClause : MethodName := ⟨RX10, "takesClause", "(I)Z"⟩
abbrev cX10_goesText : ByteArray := prog_12_method_26_code
def yX10_goesText : MethodName := ⟨RX10, "goesText", "(I)Z"⟩
abbrev cX10_bench : ByteArray := prog_12_method_27_code
def yX10_bench : MethodName := ⟨RX10, "bench", "()I"⟩
abbrev cX10_begin : ByteArray := prog_12_method_28_code
def yX10_begin : MethodName := ⟨RX10, "begin", "()I"⟩
abbrev cX10_behind : ByteArray := prog_12_method_29_code
def yX10_behind : MethodName := ⟨RX10, "behind", "()I"⟩
abbrev cX10_pace : ByteArray := prog_12_method_30_code
def yX10_pace : MethodName := ⟨RX10, "pace", "()I"⟩
abbrev cX10_factOf : ByteArray := prog_12_method_31_code
def yX10_factOf : MethodName := ⟨RX10, "factOf", "(III)I"⟩
abbrev cX10_holds : ByteArray := prog_12_method_32_code
def yX10_holds : MethodName := ⟨RX10, "holds", "(III)Z"⟩
abbrev cX10_newsNow : ByteArray := prog_12_method_33_code
def yX10_newsNow : MethodName := ⟨RX10, "newsNow", "(II)I"⟩
abbrev cX10_layNews : ByteArray := prog_12_method_34_code
def yX10_layNews : MethodName := ⟨RX10, "layNews", "()V"⟩
abbrev cX10_newsOf : ByteArray := prog_12_method_35_code
def yX10_newsOf : MethodName := ⟨RX10, "newsOf", "(II)I"⟩
abbrev cX10_news : ByteArray := prog_12_method_36_code
def yX10_news : MethodName := ⟨RX10, "news", "(II)I"⟩
abbrev cX10_holdsOf : ByteArray := prog_12_method_37_code
def yX10_holdsOf : MethodName := ⟨RX10, "holdsOf", "(I)I"⟩
abbrev cX10_minds : ByteArray := prog_12_method_38_code
def yX10_minds : MethodName := ⟨RX10, "minds", "(II)Z"⟩
abbrev cX10_isUp : ByteArray := prog_12_method_39_code
def yX10_isUp : MethodName := ⟨RX10, "isUp", "(I)Z"⟩
abbrev cX10_upMany : ByteArray := prog_12_method_40_code
def yX10_upMany : MethodName := ⟨RX10, "upMany", "()I"⟩
abbrev cX10_left : ByteArray := prog_12_method_41_code
def yX10_left : MethodName := ⟨RX10, "left", "(I)I"⟩
abbrev cX10_allLeft : ByteArray := prog_12_method_42_code
def yX10_allLeft : MethodName := ⟨RX10, "allLeft", "()I"⟩
abbrev cX10_minded : ByteArray := prog_12_method_43_code
def yX10_minded : MethodName := ⟨RX10, "minded", "(I)I"⟩
abbrev cX10_goNight : ByteArray := prog_12_method_44_code
def yX10_goNight : MethodName := ⟨RX10, "goNight", "()V"⟩
abbrev cX10_goEvening : ByteArray := prog_12_method_45_code
def yX10_goEvening : MethodName := ⟨RX10, "goEvening", "(I)I"⟩
abbrev cX10_tell : ByteArray := prog_12_method_46_code
def yX10_tell : MethodName := ⟨RX10, "tell", "(I)I"⟩
abbrev cX10_pass : ByteArray := prog_12_method_47_code
def yX10_pass : MethodName := ⟨RX10, "pass", "(I)I"⟩
abbrev cX10_save : ByteArray := prog_12_method_48_code
def yX10_save : MethodName := ⟨RX10, "save", "()V"⟩
abbrev cX10_putBack : ByteArray := prog_12_method_49_code
def yX10_putBack : MethodName := ⟨RX10, "putBack", "()V"⟩
abbrev cX10_whole_ : ByteArray := prog_12_method_50_code
def yX10_whole_ : MethodName := ⟨RX10, "whole", "(I)I"⟩
abbrev cX10_of : ByteArray := prog_12_method_51_code
def yX10_of : MethodName := ⟨RX10, "of", "(II)I"⟩
abbrev cX10_told : ByteArray := prog_12_method_52_code
def yX10_told : MethodName := ⟨RX10, "told", "(I)I"⟩
abbrev cX10_goEvenings : ByteArray := prog_12_method_53_code
def yX10_goEvenings : MethodName := ⟨RX10, "goEvenings", "(II)V"⟩
abbrev cX10_on : ByteArray := prog_12_method_54_code
def yX10_on : MethodName := ⟨RX10, "on", "(III)I"⟩
abbrev cX10_layTurn : ByteArray := prog_12_method_55_code
def yX10_layTurn : MethodName := ⟨RX10, "layTurn", "(I)Z"⟩
abbrev cX10_goWhole : ByteArray := prog_12_method_56_code
def yX10_goWhole : MethodName := ⟨RX10, "goWhole", "(I)I"⟩
abbrev cX10_goTurn : ByteArray := prog_12_method_57_code
def yX10_goTurn : MethodName := ⟨RX10, "goTurn", "()I"⟩
abbrev cX10_soonest : ByteArray := prog_12_method_58_code
def yX10_soonest : MethodName := ⟨RX10, "soonest", "(I)I"⟩
abbrev cX10_most : ByteArray := prog_12_method_59_code
def yX10_most : MethodName := ⟨RX10, "most", "(II)I"⟩
abbrev cX10_next : ByteArray := prog_12_method_60_code
def yX10_next : MethodName := ⟨RX10, "next", "()I"⟩
abbrev cX10_see : ByteArray := prog_12_method_61_code
def yX10_see : MethodName := ⟨RX10, "see", "(III)I"⟩
abbrev cX10_isSeen : ByteArray := prog_12_method_62_code
def yX10_isSeen : MethodName := ⟨RX10, "isSeen", "(I)Z"⟩
abbrev cX10_since : ByteArray := prog_12_method_63_code
def yX10_since : MethodName := ⟨RX10, "since", "(II)I"⟩
abbrev cX10_can : ByteArray := prog_12_method_64_code
def yX10_can : MethodName := ⟨RX10, "can", "(II)I"⟩
abbrev cX10_divisor : ByteArray := prog_12_method_65_code
def yX10_divisor : MethodName := ⟨RX10, "divisor", "(II)I"⟩
abbrev cX10_lowest : ByteArray := prog_12_method_66_code
def yX10_lowest : MethodName := ⟨RX10, "lowest", "(III)J"⟩
abbrev cX10_odds : ByteArray := prog_12_method_67_code
def yX10_odds : MethodName := ⟨RX10, "odds", "(II)J"⟩
abbrev cX10_mean : ByteArray := prog_12_method_68_code
def yX10_mean : MethodName := ⟨RX10, "mean", "(I)J"⟩
abbrev cX10_month : ByteArray := prog_12_method_69_code
def yX10_month : MethodName := ⟨RX10, "month", "(I)I"⟩
abbrev cX10_ends : ByteArray := prog_12_method_70_code
def yX10_ends : MethodName := ⟨RX10, "ends", "(I)I"⟩
abbrev cX10_book : ByteArray := prog_12_method_71_code
def yX10_book : MethodName := ⟨RX10, "book", "(II)I"⟩
abbrev cX10_looked : ByteArray := prog_12_method_72_code
def yX10_looked : MethodName := ⟨RX10, "looked", "()I"⟩
abbrev cX10_judge : ByteArray := prog_12_method_73_code
def yX10_judge : MethodName := ⟨RX10, "judge", "(II)I"⟩
abbrev cX10_image : ByteArray := prog_12_method_74_code
def yX10_image : MethodName := ⟨RX10, "image", "()I"⟩
abbrev cX10_undo : ByteArray := prog_12_method_75_code
def yX10_undo : MethodName := ⟨RX10, "undo", "()I"⟩
abbrev cX10_body : ByteArray := prog_12_method_76_code
def yX10_body : MethodName := ⟨RX10, "body", "(I)V"⟩
abbrev cX10_clockTicks : ByteArray := prog_12_method_77_code
def yX10_clockTicks : MethodName := ⟨RX10, "clockTicks", "(II)I"⟩
abbrev cX10_ticksAct : ByteArray := prog_12_method_78_code
def yX10_ticksAct : MethodName := ⟨RX10, "ticksAct", "(II)I"⟩
abbrev cX10_clockStrikes : ByteArray := prog_12_method_79_code
def yX10_clockStrikes : MethodName := ⟨RX10, "clockStrikes", "(II)I"⟩
abbrev cX10_fastStrikes : ByteArray := prog_12_method_80_code
def yX10_fastStrikes : MethodName := ⟨RX10, "fastStrikes", "(II)I"⟩
abbrev cX10_strikesAct : ByteArray := prog_12_method_81_code
def yX10_strikesAct : MethodName := ⟨RX10, "strikesAct", "(II)I"⟩
abbrev cX10_clockTells : ByteArray := prog_12_method_82_code
def yX10_clockTells : MethodName := ⟨RX10, "clockTells", "(II)I"⟩
abbrev cX10_tellsAct : ByteArray := prog_12_method_83_code
def yX10_tellsAct : MethodName := ⟨RX10, "tellsAct", "(II)I"⟩
abbrev cX10_act : ByteArray := prog_12_method_84_code
def yX10_act : MethodName := ⟨RX10, "act", "(III)I"⟩
abbrev cX10_trace : ByteArray := prog_12_method_85_code
def yX10_trace : MethodName := ⟨RX10, "trace", "(I)I"⟩
abbrev cX10_taken : ByteArray := prog_12_method_86_code
def yX10_taken : MethodName := ⟨RX10, "taken", "(II)I"⟩
abbrev cX10_count : ByteArray := prog_12_method_87_code
def yX10_count : MethodName := ⟨RX10, "count", "(I)I"⟩
abbrev cX10_isTape : ByteArray := prog_12_method_88_code
def yX10_isTape : MethodName := ⟨RX10, "isTape", "(I)Z"⟩
abbrev cX10_tape : ByteArray := prog_12_method_89_code
def yX10_tape : MethodName := ⟨RX10, "tape", "(III)I"⟩
abbrev cX10_narrow : ByteArray := prog_12_method_90_code
def yX10_narrow : MethodName := ⟨RX10, "narrow", "(IJ)J"⟩
abbrev cX10_item : ByteArray := prog_12_method_91_code
def yX10_item : MethodName := ⟨RX10, "item", "(IIJ)I"⟩
abbrev cX10_read : ByteArray := prog_12_method_92_code
def yX10_read : MethodName := ⟨RX10, "read", "(II)J"⟩
abbrev cX10_shift : ByteArray := prog_12_method_93_code
def yX10_shift : MethodName := ⟨RX10, "shift", "(IIIII)I"⟩
def RJx145de : String := "java/io/Serializable"
def TJx145de : u_T := fun k => match k with
  | _ => ("", "", "", false)
def tyJx145de : Nat → FieldType := fun k => match k with
  | _ => .int
abbrev wsJx145de0 : List Cond := u_ws RJx145de TJx145de 0
theorem nmJx145de : ∀ a, a < 0 → ∀ b, b < 0 → a ≠ b → (TJx145de a).2.1 ≠ (TJx145de b).2.1 := by decide +kernel
theorem tyJx145de_ok : ∀ k, k < 0 → parseFieldDescriptor (TJx145de k).2.2.1 = some (tyJx145de k) := by decide +kernel
def RJx9f9b0 : String := "java/lang/CharSequence"
def TJx9f9b0 : u_T := fun k => match k with
  | _ => ("", "", "", false)
def tyJx9f9b0 : Nat → FieldType := fun k => match k with
  | _ => .int
abbrev wsJx9f9b00 : List Cond := u_ws RJx9f9b0 TJx9f9b0 0
theorem nmJx9f9b0 : ∀ a, a < 0 → ∀ b, b < 0 → a ≠ b → (TJx9f9b0 a).2.1 ≠ (TJx9f9b0 b).2.1 := by decide +kernel
theorem tyJx9f9b0_ok : ∀ k, k < 0 → parseFieldDescriptor (TJx9f9b0 k).2.2.1 = some (tyJx9f9b0 k) := by decide +kernel
def RJ11 : String := "java/lang/Character"
def TJ11 : u_T := fun k => match k with
  | _ => ("", "", "", false)
def tyJ11 : Nat → FieldType := fun k => match k with
  | _ => .int
abbrev wsJ110 : List Cond := u_ws RJ11 TJ11 0
theorem nmJ11 : ∀ a, a < 0 → ∀ b, b < 0 → a ≠ b → (TJ11 a).2.1 ≠ (TJ11 b).2.1 := by decide +kernel
theorem tyJ11_ok : ∀ k, k < 0 → parseFieldDescriptor (TJ11 k).2.2.1 = some (tyJ11 k) := by decide +kernel
abbrev cJ11_isValidCodePoint_9a6ad : ByteArray := prog_13_method_11_code
def yJ11_isValidCodePoint_9a6ad : MethodName := ⟨RJ11, "isValidCodePoint", "(I)Z"⟩
abbrev cJ11_highSurrogate_5068e : ByteArray := prog_13_method_28_code
def yJ11_highSurrogate_5068e : MethodName := ⟨RJ11, "highSurrogate", "(I)C"⟩
abbrev cJ11_lowSurrogate_5068e : ByteArray := prog_13_method_29_code
def yJ11_lowSurrogate_5068e : MethodName := ⟨RJ11, "lowSurrogate", "(I)C"⟩
def RJxb160c : String := "java/lang/Comparable"
def TJxb160c : u_T := fun k => match k with
  | _ => ("", "", "", false)
def tyJxb160c : Nat → FieldType := fun k => match k with
  | _ => .int
abbrev wsJxb160c0 : List Cond := u_ws RJxb160c TJxb160c 0
theorem nmJxb160c : ∀ a, a < 0 → ∀ b, b < 0 → a ≠ b → (TJxb160c a).2.1 ≠ (TJxb160c b).2.1 := by decide +kernel
theorem tyJxb160c_ok : ∀ k, k < 0 → parseFieldDescriptor (TJxb160c k).2.2.1 = some (tyJxb160c k) := by decide +kernel
def RJ9 : String := "java/lang/Math"
def TJ9 : u_T := fun k => match k with
  | _ => ("", "", "", false)
def tyJ9 : Nat → FieldType := fun k => match k with
  | _ => .int
abbrev wsJ90 : List Cond := u_ws RJ9 TJ9 0
theorem nmJ9 : ∀ a, a < 0 → ∀ b, b < 0 → a ≠ b → (TJ9 a).2.1 ≠ (TJ9 b).2.1 := by decide +kernel
theorem tyJ9_ok : ∀ k, k < 0 → parseFieldDescriptor (TJ9 k).2.2.1 = some (tyJ9 k) := by decide +kernel
abbrev cJ9_max_7cf53 : ByteArray := prog_14_method_65_code
def yJ9_max_7cf53 : MethodName := ⟨RJ9, "max", "(II)I"⟩
abbrev cJ9_min_7cf53 : ByteArray := prog_14_method_69_code
def yJ9_min_7cf53 : MethodName := ⟨RJ9, "min", "(II)I"⟩
def RJ0 : String := "java/lang/String"
def TJ0 : u_T := fun k => match k with
  | _ => ("", "", "", false)
def tyJ0 : Nat → FieldType := fun k => match k with
  | _ => .int
abbrev wsJ00 : List Cond := u_ws RJ0 TJ0 0
theorem nmJ0 : ∀ a, a < 0 → ∀ b, b < 0 → a ≠ b → (TJ0 a).2.1 ≠ (TJ0 b).2.1 := by decide +kernel
theorem tyJ0_ok : ∀ k, k < 0 → parseFieldDescriptor (TJ0 k).2.2.1 = some (tyJ0 k) := by decide +kernel
abbrev cJ0_length_8abf5 : ByteArray := prog_15_method_54_code
def yJ0_length_8abf5 : MethodName := ⟨RJ0, "length", "()I"⟩
abbrev cJ0_charAt_5068e : ByteArray := prog_15_method_56_code
def yJ0_charAt_5068e : MethodName := ⟨RJ0, "charAt", "(I)C"⟩
abbrev cJ0_indexOf_0f7a4 : ByteArray := prog_15_method_79_code
def yJ0_indexOf_0f7a4 : MethodName := ⟨RJ0, "indexOf", "(I)I"⟩
abbrev cJ0_indexOf_7cf53 : ByteArray := prog_15_method_80_code
def yJ0_indexOf_7cf53 : MethodName := ⟨RJ0, "indexOf", "(II)I"⟩
abbrev cJ0_coder_7d493 : ByteArray := prog_15_method_152_code
def yJ0_coder_7d493 : MethodName := ⟨RJ0, "coder", "()B"⟩
abbrev cJ0_isLatin1_aae02 : ByteArray := prog_15_method_154_code
def yJ0_isLatin1_aae02 : MethodName := ⟨RJ0, "isLatin1", "()Z"⟩
abbrev cJ0_checkIndex_df160 : ByteArray := prog_15_method_155_code
def yJ0_checkIndex_df160 : MethodName := ⟨RJ0, "checkIndex", "(II)V"⟩
abbrev cJ0_checkBoundsBeginEnd_23922 : ByteArray := prog_15_method_158_code
def yJ0_checkBoundsBeginEnd_23922 : MethodName := ⟨RJ0, "checkBoundsBeginEnd", "(III)V"⟩
def RJ1 : String := "java/lang/StringLatin1"
def TJ1 : u_T := fun k => match k with
  | _ => ("", "", "", false)
def tyJ1 : Nat → FieldType := fun k => match k with
  | _ => .int
abbrev wsJ10 : List Cond := u_ws RJ1 TJ1 0
theorem nmJ1 : ∀ a, a < 0 → ∀ b, b < 0 → a ≠ b → (TJ1 a).2.1 ≠ (TJ1 b).2.1 := by decide +kernel
theorem tyJ1_ok : ∀ k, k < 0 → parseFieldDescriptor (TJ1 k).2.2.1 = some (tyJ1 k) := by decide +kernel
abbrev cJ1_charAt_3b067 : ByteArray := prog_16_method_2_code
def yJ1_charAt_3b067 : MethodName := ⟨RJ1, "charAt", "([BI)C"⟩
abbrev cJ1_canEncode_9a6ad : ByteArray := prog_16_method_4_code
def yJ1_canEncode_9a6ad : MethodName := ⟨RJ1, "canEncode", "(I)Z"⟩
abbrev cJ1_indexOf_4cfef : ByteArray := prog_16_method_22_code
def yJ1_indexOf_4cfef : MethodName := ⟨RJ1, "indexOf", "([BIII)I"⟩
abbrev cJ1_indexOfChar_4cfef : ByteArray := prog_16_method_23_code
def yJ1_indexOfChar_4cfef : MethodName := ⟨RJ1, "indexOfChar", "([BIII)I"⟩
def RJ2 : String := "java/lang/StringUTF16"
def TJ2 : u_T := fun k => match k with
  | _ => ("", "", "", false)
def tyJ2 : Nat → FieldType := fun k => match k with
  | _ => .int
abbrev wsJ20 : List Cond := u_ws RJ2 TJ2 0
theorem nmJ2 : ∀ a, a < 0 → ∀ b, b < 0 → a ≠ b → (TJ2 a).2.1 ≠ (TJ2 b).2.1 := by decide +kernel
theorem tyJ2_ok : ∀ k, k < 0 → parseFieldDescriptor (TJ2 k).2.2.1 = some (tyJ2 k) := by decide +kernel
abbrev cJ2_getChar_3b067 : ByteArray := prog_17_method_5_code
def yJ2_getChar_3b067 : MethodName := ⟨RJ2, "getChar", "([BI)C"⟩
abbrev cJ2_length_9d52b : ByteArray := prog_17_method_6_code
def yJ2_length_9d52b : MethodName := ⟨RJ2, "length", "([B)I"⟩
abbrev cJ2_indexOf_4cfef : ByteArray := prog_17_method_40_code
def yJ2_indexOf_4cfef : MethodName := ⟨RJ2, "indexOf", "([BIII)I"⟩
abbrev cJ2_indexOfChar_4cfef : ByteArray := prog_17_method_47_code
def yJ2_indexOfChar_4cfef : MethodName := ⟨RJ2, "indexOfChar", "([BIII)I"⟩
abbrev cJ2_indexOfCharUnsafe_4cfef : ByteArray := prog_17_method_48_code
def yJ2_indexOfCharUnsafe_4cfef : MethodName := ⟨RJ2, "indexOfCharUnsafe", "([BIII)I"⟩
abbrev cJ2_indexOfSupplementary_4cfef : ByteArray := prog_17_method_49_code
def yJ2_indexOfSupplementary_4cfef : MethodName := ⟨RJ2, "indexOfSupplementary", "([BIII)I"⟩
abbrev cJ2_charAt_3b067 : ByteArray := prog_17_method_83_code
def yJ2_charAt_3b067 : MethodName := ⟨RJ2, "charAt", "([BI)C"⟩
abbrev cJ2_checkIndex_2214a : ByteArray := prog_17_method_91_code
def yJ2_checkIndex_2214a : MethodName := ⟨RJ2, "checkIndex", "(I[B)V"⟩
abbrev cJ2_checkBoundsBeginEnd_d044e : ByteArray := prog_17_method_93_code
def yJ2_checkBoundsBeginEnd_d044e : MethodName := ⟨RJ2, "checkBoundsBeginEnd", "(II[B)V"⟩
def RJ10 : String := "java/lang/System"
def TJ10 : u_T := fun k => match k with
  | _ => ("", "", "", false)
def tyJ10 : Nat → FieldType := fun k => match k with
  | _ => .int
abbrev wsJ100 : List Cond := u_ws RJ10 TJ10 0
theorem nmJ10 : ∀ a, a < 0 → ∀ b, b < 0 → a ≠ b → (TJ10 a).2.1 ≠ (TJ10 b).2.1 := by decide +kernel
theorem tyJ10_ok : ∀ k, k < 0 → parseFieldDescriptor (TJ10 k).2.2.1 = some (tyJ10 k) := by decide +kernel
def RJxfd54e : String := "java/lang/constant/Constable"
def TJxfd54e : u_T := fun k => match k with
  | _ => ("", "", "", false)
def tyJxfd54e : Nat → FieldType := fun k => match k with
  | _ => .int
abbrev wsJxfd54e0 : List Cond := u_ws RJxfd54e TJxfd54e 0
theorem nmJxfd54e : ∀ a, a < 0 → ∀ b, b < 0 → a ≠ b → (TJxfd54e a).2.1 ≠ (TJxfd54e b).2.1 := by decide +kernel
theorem tyJxfd54e_ok : ∀ k, k < 0 → parseFieldDescriptor (TJxfd54e k).2.2.1 = some (tyJxfd54e k) := by decide +kernel
def RJx3cf43 : String := "java/lang/constant/ConstantDesc"
def TJx3cf43 : u_T := fun k => match k with
  | _ => ("", "", "", false)
def tyJx3cf43 : Nat → FieldType := fun k => match k with
  | _ => .int
abbrev wsJx3cf430 : List Cond := u_ws RJx3cf43 TJx3cf43 0
theorem nmJx3cf43 : ∀ a, a < 0 → ∀ b, b < 0 → a ≠ b → (TJx3cf43 a).2.1 ≠ (TJx3cf43 b).2.1 := by decide +kernel
theorem tyJx3cf43_ok : ∀ k, k < 0 → parseFieldDescriptor (TJx3cf43 k).2.2.1 = some (tyJx3cf43 k) := by decide +kernel
def RJ7 : String := "java/util/Arrays"
def TJ7 : u_T := fun k => match k with
  | _ => ("", "", "", false)
def tyJ7 : Nat → FieldType := fun k => match k with
  | _ => .int
abbrev wsJ70 : List Cond := u_ws RJ7 TJ7 0
theorem nmJ7 : ∀ a, a < 0 → ∀ b, b < 0 → a ≠ b → (TJ7 a).2.1 ≠ (TJ7 b).2.1 := by decide +kernel
theorem tyJ7_ok : ∀ k, k < 0 → parseFieldDescriptor (TJ7 k).2.2.1 = some (tyJ7 k) := by decide +kernel
abbrev cJ7_fill_d0a16 : ByteArray := prog_19_method_101_code
def yJ7_fill_d0a16 : MethodName := ⟨RJ7, "fill", "([JJ)V"⟩
def RJ3 : String := "jdk/internal/util/Preconditions"
def TJ3 : u_T := fun k => match k with
  | _ => ("", "", "", false)
def tyJ3 : Nat → FieldType := fun k => match k with
  | _ => .int
abbrev wsJ30 : List Cond := u_ws RJ3 TJ3 0
theorem nmJ3 : ∀ a, a < 0 → ∀ b, b < 0 → a ≠ b → (TJ3 a).2.1 ≠ (TJ3 b).2.1 := by decide +kernel
theorem tyJ3_ok : ∀ k, k < 0 → parseFieldDescriptor (TJ3 k).2.2.1 = some (tyJ3 k) := by decide +kernel
abbrev cJ3_checkIndex_8e157 : ByteArray := prog_20_method_11_code
def yJ3_checkIndex_8e157 : MethodName := ⟨RJ3, "checkIndex", "(IILjava/util/function/BiFunction;)I"⟩
abbrev cJ3_checkFromToIndex_8c36e : ByteArray := prog_20_method_12_code
def yJ3_checkFromToIndex_8c36e : MethodName := ⟨RJ3, "checkFromToIndex", "(IIILjava/util/function/BiFunction;)I"⟩
def RL : String := "ClocksToldLaw"
abbrev cL_law : ByteArray := code
def yL_law : MethodName := ⟨RL, "law", "([I)Z"⟩
abbrev vwCl : List vw_C := [(RX0, TX0, 5), (RX1, TX1, 4), (RX2, TX2, 6), (RX3, TX3, 3), (RX4, TX4, 5), (RX5, TX5, 6), (RX6, TX6, 3), (RX7, TX7, 11), (RX8, TX8, 3), (RX9, TX9, 10), (RX10, TX10, 66)]
end
section
def DL (c : ByteArray) (L : List (Nat × (Instr × Nat))) : Prop := ∀ (i : Nat) (q : Nat × (Instr × Nat)), L[i]? = some q → decode c q.1 = .ok q.2
theorem DL.of {c : ByteArray} {L : List (Nat × (Instr × Nat))} (h : (L.all fun q => decide (decode c q.1 = .ok q.2)) = true) : DL c L := fun i q hq => of_decide_eq_true (List.all_eq_true.mp h q (List.mem_of_getElem? hq))
set_option maxRecDepth 20000 in
theorem dlX0_init_0 : DL cX0_init [(0, (.aload_n 0, 1)), (1, (.invokespecial 3, 3)), (4, (.aload_n 0, 1)), (5, (.bipush 20, 2)), (7, (.newarray .int, 2)), (9, (.putfield 11, 3)), (12, (.aload_n 0, 1)), (13, (.iconst 0, 1)), (14, (.putfield 15, 3)), (17, (.aload_n 0, 1)), (18, (.iconst 0, 1)), (19, (.putfield 19, 3)), (22, (.aload_n 0, 1)), (23, (.iconst 0, 1)), (24, (.putfield 22, 3)), (27, (.aload_n 0, 1)), (28, (.iconst 0, 1)), (29, (.putfield 25, 3)), (32, (.return_, 1))] := DL.of (by decide +kernel)
set_option maxRecDepth 20000 in
theorem dlX0_start_0 : DL cX0_start [(0, (.aload_n 0, 1)), (1, (.iload_n 1, 1)), (2, (.putfield 19, 3)), (5, (.aload_n 0, 1)), (6, (.iload_n 2, 1)), (7, (.putfield 22, 3)), (10, (.aload_n 0, 1)), (11, (.iload_n 3, 1)), (12, (.putfield 25, 3)), (15, (.aload_n 0, 1)), (16, (.iload_n 2, 1)), (17, (.iload 4, 2)), (19, (.iload 5, 2)), (21, (.iconst 0, 1)), (22, (.invokevirtual 28, 3)), (25, (.ireturn, 1))] := DL.of (by decide +kernel)
set_option maxRecDepth 20000 in
theorem dlX0_run_0 : DL cX0_run [(0, (.iload_n 1, 1)), (1, (.iload_n 2, 1)), (2, (.invokestatic 32, 3)), (5, (.istore 5, 2)), (7, (.iload 5, 2)), (9, (.ifCond .eq 10, 3)), (12, (.iload 4, 2)), (14, (.bipush 40, 2)), (16, (.if_icmp .lt 5, 3)), (19, (.iconst 0, 1)), (20, (.ireturn, 1)), (21, (.aload_n 0, 1)), (22, (.iload 5, 2)), (24, (.invokevirtual 36, 3)), (27, (.getstatic 40, 3)), (30, (.iload 5, 2)), (32, (.bipush 10, 2)), (34, (.idiv, 1)), (35, (.iconst 1, 1)), (36, (.isub, 1)), (37, (.iaload, 1)), (38, (.istore 6, 2)), (40, (.iload 4, 2)), (42, (.iconst 1, 1)), (43, (.iadd, 1)), (44, (.istore 7, 2)), (46, (.iload 5, 2)), (48, (.lookupswitch 270 #[(10, 100), (11, 107), (12, 125), (20, 140), (30, 154), (40, 167), (50, 191), (51, 203), (60, 216), (70, 232), (71, 254)], 100)), (148, (.iload_n 3, 1)), (149, (.aload_n 0, 1)), (150, (.getfield 19, 3)), (153, (.iadd, 1)), (154, (.ireturn, 1)), (155, (.aload_n 0, 1)), (156, (.aload_n 0, 1)), (157, (.getfield 22, 3)), (160, (.iconst 0, 1)), (161, (.iload_n 3, 1)), (162, (.iload 7, 2)), (164, (.invokevirtual 28, 3))] := DL.of (by decide +kernel)
set_option maxRecDepth 20000 in
theorem dlX0_run_1 : DL cX0_run [(167, (.aload_n 0, 1)), (168, (.getfield 25, 3)), (171, (.isub, 1)), (172, (.ireturn, 1)), (173, (.aload_n 0, 1)), (174, (.aload_n 0, 1)), (175, (.getfield 22, 3)), (178, (.iconst 1, 1)), (179, (.iload_n 3, 1)), (180, (.iload 7, 2)), (182, (.invokevirtual 28, 3)), (185, (.iconst 2, 1)), (186, (.imul, 1)), (187, (.ireturn, 1)), (188, (.aload_n 0, 1)), (189, (.iload 6, 2)), (191, (.iconst 1, 1)), (192, (.iload_n 3, 1)), (193, (.iload 7, 2)), (195, (.invokevirtual 28, 3)), (198, (.bipush 6, 2)), (200, (.ixor, 1)), (201, (.ireturn, 1)), (202, (.aload_n 0, 1)), (203, (.iload 6, 2)), (205, (.iconst 0, 1)), (206, (.iload_n 3, 1)), (207, (.iconst 3, 1)), (208, (.imul, 1)), (209, (.iload 7, 2)), (211, (.invokevirtual 28, 3)), (214, (.ireturn, 1)), (215, (.aload_n 0, 1)), (216, (.iload 6, 2)), (218, (.iconst 2, 1)), (219, (.iload_n 3, 1)), (220, (.iload 7, 2)), (222, (.invokevirtual 28, 3)), (225, (.aload_n 0, 1)), (226, (.aload_n 0, 1))] := DL.of (by decide +kernel)
set_option maxRecDepth 20000 in
theorem dlX0_run_2 : DL cX0_run [(227, (.getfield 22, 3)), (230, (.iconst 1, 1)), (231, (.iconst 1, 1)), (232, (.iload 7, 2)), (234, (.invokevirtual 28, 3)), (237, (.iadd, 1)), (238, (.ireturn, 1)), (239, (.aload_n 0, 1)), (240, (.iload 6, 2)), (242, (.iconst 0, 1)), (243, (.iload_n 3, 1)), (244, (.iload 7, 2)), (246, (.invokevirtual 28, 3)), (249, (.ineg, 1)), (250, (.ireturn, 1)), (251, (.aload_n 0, 1)), (252, (.iload 6, 2)), (254, (.iconst 1, 1)), (255, (.iload_n 3, 1)), (256, (.iconst 1, 1)), (257, (.iadd, 1)), (258, (.iload 7, 2)), (260, (.invokevirtual 28, 3)), (263, (.ireturn, 1)), (264, (.aload_n 0, 1)), (265, (.iload 6, 2)), (267, (.iconst 2, 1)), (268, (.iload_n 3, 1)), (269, (.aload_n 0, 1)), (270, (.getfield 19, 3)), (273, (.isub, 1)), (274, (.iload 7, 2)), (276, (.invokevirtual 28, 3)), (279, (.ireturn, 1)), (280, (.aload_n 0, 1)), (281, (.iload 6, 2)), (283, (.iconst 1, 1)), (284, (.iload_n 3, 1)), (285, (.iload 7, 2)), (287, (.invokevirtual 28, 3))] := DL.of (by decide +kernel)
set_option maxRecDepth 20000 in
theorem dlX0_run_3 : DL cX0_run [(290, (.aload_n 0, 1)), (291, (.iload 6, 2)), (293, (.iconst 0, 1)), (294, (.iconst 2, 1)), (295, (.iload 7, 2)), (297, (.invokevirtual 28, 3)), (300, (.iadd, 1)), (301, (.ireturn, 1)), (302, (.aload_n 0, 1)), (303, (.iload 6, 2)), (305, (.iconst 0, 1)), (306, (.iload_n 3, 1)), (307, (.iload 7, 2)), (309, (.invokevirtual 28, 3)), (312, (.aload_n 0, 1)), (313, (.getfield 25, 3)), (316, (.ixor, 1)), (317, (.ireturn, 1)), (318, (.iconst 0, 1)), (319, (.ireturn, 1))] := DL.of (by decide +kernel)
set_option maxRecDepth 20000 in
theorem dlX0_bodyFrom_0 : DL cX0_bodyFrom [(0, (.iload_n 0, 1)), (1, (.istore_n 2, 1)), (2, (.iconst 0, 1)), (3, (.istore_n 3, 1)), (4, (.iload_n 3, 1)), (5, (.bipush 7, 2)), (7, (.if_icmp .ge 38, 3)), (10, (.iload_n 2, 1)), (11, (.ifCond .lt 34, 3)), (14, (.getstatic 43, 3)), (17, (.iload_n 2, 1)), (18, (.iconst 3, 1)), (19, (.imul, 1)), (20, (.iload_n 1, 1)), (21, (.iadd, 1)), (22, (.iaload, 1)), (23, (.istore 4, 2)), (25, (.iload 4, 2)), (27, (.ifCond .eq 6, 3)), (30, (.iload 4, 2)), (32, (.ireturn, 1)), (33, (.getstatic 40, 3)), (36, (.iload_n 2, 1)), (37, (.iaload, 1)), (38, (.istore_n 2, 1)), (39, (.iinc 3 1, 3)), (42, (.goto (-38), 3)), (45, (.iconst 0, 1)), (46, (.ireturn, 1))] := DL.of (by decide +kernel)
set_option maxRecDepth 20000 in
theorem dlX0_note_0 : DL cX0_note [(0, (.aload_n 0, 1)), (1, (.getfield 15, 3)), (4, (.bipush 20, 2)), (6, (.if_icmp .ge 13, 3)), (9, (.aload_n 0, 1)), (10, (.getfield 11, 3)), (13, (.aload_n 0, 1)), (14, (.getfield 15, 3)), (17, (.iload_n 1, 1)), (18, (.iastore, 1)), (19, (.aload_n 0, 1)), (20, (.dup, 1)), (21, (.getfield 15, 3)), (24, (.iconst 1, 1)), (25, (.iadd, 1)), (26, (.putfield 15, 3)), (29, (.return_, 1))] := DL.of (by decide +kernel)
set_option maxRecDepth 20000 in
theorem dlX1_init_0 : DL cX1_init [(0, (.aload_n 0, 1)), (1, (.invokespecial 3, 3)), (4, (.aload_n 0, 1)), (5, (.new 9, 3)), (8, (.dup, 1)), (9, (.invokespecial 11, 3)), (12, (.putfield 12, 3)), (15, (.aload_n 0, 1)), (16, (.iconst 0, 1)), (17, (.putfield 18, 3)), (20, (.aload_n 0, 1)), (21, (.bipush (-5), 2)), (23, (.putfield 22, 3)), (26, (.aload_n 0, 1)), (27, (.aload_n 1, 1)), (28, (.putfield 25, 3)), (31, (.return_, 1))] := DL.of (by decide +kernel)
set_option maxRecDepth 20000 in
theorem dlX1_begin_0 : DL cX1_begin [(0, (.aload_n 0, 1)), (1, (.getfield 12, 3)), (4, (.aload_n 0, 1)), (5, (.getfield 25, 3)), (8, (.getfield 29, 3)), (11, (.invokevirtual 34, 3)), (14, (.return_, 1))] := DL.of (by decide +kernel)
set_option maxRecDepth 20000 in
theorem dlX1_tellOften_0 : DL cX1_tellOften [(0, (.iconst 0, 1)), (1, (.istore_n 3, 1)), (2, (.iload_n 3, 1)), (3, (.iload_n 2, 1)), (4, (.if_icmp .ge 22, 3)), (7, (.aload_n 0, 1)), (8, (.getfield 25, 3)), (11, (.aload_n 0, 1)), (12, (.getfield 12, 3)), (15, (.iload_n 1, 1)), (16, (.invokevirtual 38, 3)), (19, (.pop, 1)), (20, (.iinc 3 1, 3)), (23, (.goto (-21), 3)), (26, (.return_, 1))] := DL.of (by decide +kernel)
set_option maxRecDepth 20000 in
theorem dlX1_behind_0 : DL cX1_behind [(0, (.aload_n 0, 1)), (1, (.invokevirtual 42, 3)), (4, (.aload_n 0, 1)), (5, (.iload_n 1, 1)), (6, (.iload_n 2, 1)), (7, (.invokevirtual 45, 3)), (10, (.iload_n 3, 1)), (11, (.lookupswitch 53 #[(0, 25), (1, 35)], 25)), (36, (.aload_n 0, 1)), (37, (.getfield 12, 3)), (40, (.getfield 49, 3)), (43, (.iload_n 1, 1)), (44, (.iaload, 1)), (45, (.ireturn, 1)), (46, (.aload_n 0, 1)), (47, (.getfield 12, 3)), (50, (.getfield 53, 3)), (53, (.iload_n 1, 1)), (54, (.baload, 1)), (55, (.ifCond .eq 7, 3)), (58, (.iconst 1, 1)), (59, (.goto 4, 3)), (62, (.iconst 0, 1)), (63, (.ireturn, 1)), (64, (.aload_n 0, 1)), (65, (.getfield 25, 3)), (68, (.aload_n 0, 1)), (69, (.getfield 12, 3)), (72, (.iload_n 1, 1)), (73, (.invokevirtual 57, 3)), (76, (.ireturn, 1))] := DL.of (by decide +kernel)
set_option maxRecDepth 20000 in
theorem dlX1_whole_0 : DL cX1_whole [(0, (.aload_n 0, 1)), (1, (.invokevirtual 42, 3)), (4, (.iconst 0, 1)), (5, (.istore_n 2, 1)), (6, (.iload_n 2, 1)), (7, (.bipush 60, 2)), (9, (.if_icmp .gt 35, 3)), (12, (.aload_n 0, 1)), (13, (.getfield 12, 3)), (16, (.iload_n 1, 1)), (17, (.invokevirtual 60, 3)), (20, (.ifCond .eq 5, 3)), (23, (.iload_n 2, 1)), (24, (.ireturn, 1)), (25, (.aload_n 0, 1)), (26, (.getfield 25, 3)), (29, (.aload_n 0, 1)), (30, (.getfield 12, 3)), (33, (.iload_n 1, 1)), (34, (.invokevirtual 38, 3)), (37, (.pop, 1)), (38, (.iinc 2 1, 3)), (41, (.goto (-35), 3)), (44, (.bipush (-5), 2)), (46, (.ireturn, 1))] := DL.of (by decide +kernel)
set_option maxRecDepth 20000 in
theorem dlX1_minded_0 : DL cX1_minded [(0, (.aload_n 0, 1)), (1, (.getfield 25, 3)), (4, (.getfield 29, 3)), (7, (.getfield 53, 3)), (10, (.iload_n 1, 1)), (11, (.baload, 1)), (12, (.ifCond .eq 6, 3)), (15, (.bipush (-5), 2)), (17, (.ireturn, 1)), (18, (.aload_n 0, 1)), (19, (.getfield 25, 3)), (22, (.getfield 29, 3)), (25, (.getfield 49, 3)), (28, (.iload_n 1, 1)), (29, (.iaload, 1)), (30, (.istore_n 2, 1)), (31, (.iload_n 2, 1)), (32, (.aload_n 0, 1)), (33, (.getfield 25, 3)), (36, (.getfield 29, 3)), (39, (.getfield 64, 3)), (42, (.if_icmp .ge 23, 3)), (45, (.aload_n 0, 1)), (46, (.getfield 25, 3)), (49, (.iload_n 1, 1)), (50, (.iload_n 2, 1)), (51, (.invokevirtual 67, 3)), (54, (.ifCond .eq 5, 3)), (57, (.iload_n 2, 1)), (58, (.ireturn, 1)), (59, (.iinc 2 1, 3)), (62, (.goto (-31), 3)), (65, (.bipush (-5), 2)), (67, (.ireturn, 1))] := DL.of (by decide +kernel)
set_option maxRecDepth 20000 in
theorem dlX1_bestNext_0 : DL cX1_bestNext [(0, (.bipush (-5), 2)), (2, (.istore_n 1, 1)), (3, (.ldc 73, 2)), (5, (.istore_n 2, 1)), (6, (.iconst 0, 1)), (7, (.istore_n 3, 1)), (8, (.iload_n 3, 1)), (9, (.aload_n 0, 1)), (10, (.getfield 25, 3)), (13, (.getfield 74, 3)), (16, (.if_icmp .ge 50, 3)), (19, (.aload_n 0, 1)), (20, (.invokevirtual 42, 3)), (23, (.aload_n 0, 1)), (24, (.getfield 25, 3)), (27, (.aload_n 0, 1)), (28, (.getfield 12, 3)), (31, (.iload_n 3, 1)), (32, (.invokevirtual 38, 3)), (35, (.pop, 1)), (36, (.aload_n 0, 1)), (37, (.getfield 25, 3)), (40, (.aload_n 0, 1)), (41, (.getfield 12, 3)), (44, (.invokevirtual 77, 3)), (47, (.istore 4, 2)), (49, (.iload 4, 2)), (51, (.iload_n 2, 1)), (52, (.if_icmp .ge 8, 3)), (55, (.iload 4, 2)), (57, (.istore_n 2, 1)), (58, (.iload_n 3, 1)), (59, (.istore_n 1, 1)), (60, (.iinc 3 1, 3)), (63, (.goto (-55), 3)), (66, (.iload_n 1, 1)), (67, (.ireturn, 1))] := DL.of (by decide +kernel)
set_option maxRecDepth 20000 in
theorem dlX1_howManyUpBehind_0 : DL cX1_howManyUpBehind [(0, (.iconst 0, 1)), (1, (.istore_n 2, 1)), (2, (.iconst 0, 1)), (3, (.istore_n 3, 1)), (4, (.iload_n 3, 1)), (5, (.aload_n 0, 1)), (6, (.getfield 25, 3)), (9, (.getfield 74, 3)), (12, (.if_icmp .ge 33, 3)), (15, (.aload_n 0, 1)), (16, (.invokevirtual 42, 3)), (19, (.aload_n 0, 1)), (20, (.iload_n 3, 1)), (21, (.iload_n 1, 1)), (22, (.invokevirtual 45, 3)), (25, (.aload_n 0, 1)), (26, (.getfield 12, 3)), (29, (.iload_n 3, 1)), (30, (.invokevirtual 60, 3)), (33, (.ifCond .eq 6, 3)), (36, (.iinc 2 1, 3)), (39, (.iinc 3 1, 3)), (42, (.goto (-38), 3)), (45, (.iload_n 2, 1)), (46, (.ireturn, 1))] := DL.of (by decide +kernel)
set_option maxRecDepth 20000 in
theorem dlX1_monthEnds_0 : DL cX1_monthEnds [(0, (.aload_n 0, 1)), (1, (.invokevirtual 42, 3)), (4, (.iconst 0, 1)), (5, (.istore_n 2, 1)), (6, (.iload_n 2, 1)), (7, (.aload_n 0, 1)), (8, (.getfield 25, 3)), (11, (.getfield 81, 3)), (14, (.getfield 85, 3)), (17, (.if_icmp .ge 55, 3)), (20, (.aload_n 0, 1)), (21, (.getfield 25, 3)), (24, (.getfield 81, 3)), (27, (.iload_n 2, 1)), (28, (.iconst 0, 1)), (29, (.invokevirtual 90, 3)), (32, (.istore_n 3, 1)), (33, (.iload_n 3, 1)), (34, (.bipush 6, 2)), (36, (.if_icmp .ne 17, 3)), (39, (.aload_n 0, 1)), (40, (.getfield 25, 3)), (43, (.aload_n 0, 1)), (44, (.getfield 12, 3)), (47, (.invokevirtual 94, 3)), (50, (.goto 16, 3)), (53, (.aload_n 0, 1)), (54, (.getfield 25, 3)), (57, (.aload_n 0, 1)), (58, (.getfield 12, 3)), (61, (.iload_n 3, 1)), (62, (.invokevirtual 38, 3)), (65, (.pop, 1)), (66, (.iinc 2 1, 3)), (69, (.goto (-63), 3)), (72, (.iload_n 1, 1)), (73, (.ifCond .ne 17, 3)), (76, (.aload_n 0, 1)), (77, (.getfield 25, 3)), (80, (.aload_n 0, 1))] := DL.of (by decide +kernel)
set_option maxRecDepth 20000 in
theorem dlX1_monthEnds_1 : DL cX1_monthEnds [(81, (.getfield 12, 3)), (84, (.invokevirtual 97, 3)), (87, (.goto 14, 3)), (90, (.aload_n 0, 1)), (91, (.getfield 25, 3)), (94, (.aload_n 0, 1)), (95, (.getfield 12, 3)), (98, (.invokevirtual 77, 3)), (101, (.ireturn, 1))] := DL.of (by decide +kernel)
set_option maxRecDepth 20000 in
theorem dlX1_weighDays_0 : DL cX1_weighDays [(0, (.aload_n 0, 1)), (1, (.invokevirtual 100, 3)), (4, (.aload_n 0, 1)), (5, (.getfield 25, 3)), (8, (.getfield 29, 3)), (11, (.getfield 64, 3)), (14, (.istore_n 2, 1)), (15, (.iconst 0, 1)), (16, (.istore_n 3, 1)), (17, (.iload_n 3, 1)), (18, (.bipush 99, 2)), (20, (.if_icmp .gt 23, 3)), (23, (.iload_n 3, 1)), (24, (.iload_n 2, 1)), (25, (.if_icmp .gt 18, 3)), (28, (.aload_n 0, 1)), (29, (.iload_n 1, 1)), (30, (.iload_n 2, 1)), (31, (.iload_n 3, 1)), (32, (.isub, 1)), (33, (.iload_n 3, 1)), (34, (.invokevirtual 103, 3)), (37, (.iinc 3 1, 3)), (40, (.goto (-23), 3)), (43, (.return_, 1))] := DL.of (by decide +kernel)
set_option maxRecDepth 20000 in
theorem dlX1_weighValues_0 : DL cX1_weighValues [(0, (.aload_n 0, 1)), (1, (.invokevirtual 100, 3)), (4, (.aload_n 0, 1)), (5, (.getfield 25, 3)), (8, (.getfield 107, 3)), (11, (.iload_n 1, 1)), (12, (.iaload, 1)), (13, (.istore_n 2, 1)), (14, (.iconst 0, 1)), (15, (.istore_n 3, 1)), (16, (.iload_n 3, 1)), (17, (.bipush 9, 2)), (19, (.if_icmp .gt 45, 3)), (22, (.aload_n 0, 1)), (23, (.getfield 25, 3)), (26, (.getfield 107, 3)), (29, (.iload_n 1, 1)), (30, (.iload_n 3, 1)), (31, (.iastore, 1)), (32, (.aload_n 0, 1)), (33, (.getfield 25, 3)), (36, (.iload_n 1, 1)), (37, (.invokevirtual 110, 3)), (40, (.aload_n 0, 1)), (41, (.iload_n 1, 1)), (42, (.aload_n 0, 1)), (43, (.getfield 25, 3)), (46, (.getfield 29, 3)), (49, (.getfield 49, 3)), (52, (.iload_n 1, 1)), (53, (.iaload, 1)), (54, (.iload_n 3, 1)), (55, (.invokevirtual 103, 3)), (58, (.iinc 3 1, 3)), (61, (.goto (-45), 3)), (64, (.aload_n 0, 1)), (65, (.getfield 25, 3)), (68, (.getfield 107, 3)), (71, (.iload_n 1, 1)), (72, (.iload_n 2, 1))] := DL.of (by decide +kernel)
set_option maxRecDepth 20000 in
theorem dlX1_weighValues_1 : DL cX1_weighValues [(73, (.iastore, 1)), (74, (.aload_n 0, 1)), (75, (.getfield 25, 3)), (78, (.iload_n 1, 1)), (79, (.invokevirtual 110, 3)), (82, (.return_, 1))] := DL.of (by decide +kernel)
set_option maxRecDepth 20000 in
theorem dlX1_weighNothing_0 : DL cX1_weighNothing [(0, (.aload_n 0, 1)), (1, (.iconst 0, 1)), (2, (.putfield 18, 3)), (5, (.aload_n 0, 1)), (6, (.bipush (-5), 2)), (8, (.putfield 22, 3)), (11, (.return_, 1))] := DL.of (by decide +kernel)
set_option maxRecDepth 20000 in
theorem dlX1_weigh_0 : DL cX1_weigh [(0, (.iconst 0, 1)), (1, (.istore 4, 2)), (3, (.iload 4, 2)), (5, (.aload_n 0, 1)), (6, (.getfield 25, 3)), (9, (.getfield 114, 3)), (12, (.getfield 85, 3)), (15, (.if_icmp .ge 38, 3)), (18, (.aload_n 0, 1)), (19, (.getfield 25, 3)), (22, (.getfield 114, 3)), (25, (.iload 4, 2)), (27, (.iconst 0, 1)), (28, (.invokevirtual 90, 3)), (31, (.iload_n 1, 1)), (32, (.if_icmp .ne 15, 3)), (35, (.aload_n 0, 1)), (36, (.iload 4, 2)), (38, (.iload_n 1, 1)), (39, (.iload_n 2, 1)), (40, (.invokevirtual 117, 3)), (43, (.ifCond .ne 4, 3)), (46, (.return_, 1)), (47, (.iinc 4 1, 3)), (50, (.goto (-47), 3)), (53, (.aload_n 0, 1)), (54, (.getfield 18, 3)), (57, (.ifCond .ne 8, 3)), (60, (.aload_n 0, 1)), (61, (.iload_n 3, 1)), (62, (.putfield 22, 3)), (65, (.aload_n 0, 1)), (66, (.dup, 1)), (67, (.getfield 18, 3)), (70, (.iconst 1, 1)), (71, (.iadd, 1)), (72, (.putfield 18, 3)), (75, (.return_, 1))] := DL.of (by decide +kernel)
set_option maxRecDepth 20000 in
theorem dlX1_isSo_0 : DL cX1_isSo [(0, (.aload_n 0, 1)), (1, (.invokevirtual 42, 3)), (4, (.aload_n 0, 1)), (5, (.getfield 12, 3)), (8, (.getfield 49, 3)), (11, (.iload_n 2, 1)), (12, (.iload_n 3, 1)), (13, (.iastore, 1)), (14, (.aload_n 0, 1)), (15, (.iload_n 2, 1)), (16, (.aload_n 0, 1)), (17, (.getfield 25, 3)), (20, (.getfield 114, 3)), (23, (.iload_n 1, 1)), (24, (.iconst 2, 1)), (25, (.invokevirtual 90, 3)), (28, (.invokevirtual 45, 3)), (31, (.aload_n 0, 1)), (32, (.getfield 12, 3)), (35, (.getfield 49, 3)), (38, (.iload_n 2, 1)), (39, (.iaload, 1)), (40, (.iload_n 3, 1)), (41, (.isub, 1)), (42, (.aload_n 0, 1)), (43, (.getfield 25, 3)), (46, (.getfield 114, 3)), (49, (.iload_n 1, 1)), (50, (.iconst 1, 1)), (51, (.invokevirtual 90, 3)), (54, (.if_icmp .ne 7, 3)), (57, (.iconst 1, 1)), (58, (.goto 4, 3)), (61, (.iconst 0, 1)), (62, (.ireturn, 1))] := DL.of (by decide +kernel)
set_option maxRecDepth 20000 in
theorem dlX2_init_0 : DL cX2_init [(0, (.aload_n 0, 1)), (1, (.invokespecial 1, 3)), (4, (.aload_n 0, 1)), (5, (.bipush 10, 2)), (7, (.putfield 9, 3)), (10, (.aload_n 0, 1)), (11, (.iconst 0, 1)), (12, (.putfield 13, 3)), (15, (.aload_n 0, 1)), (16, (.bipush 10, 2)), (18, (.newarray .int, 2)), (20, (.putfield 16, 3)), (23, (.aload_n 0, 1)), (24, (.bipush 10, 2)), (26, (.newarray .int, 2)), (28, (.putfield 20, 3)), (31, (.aload_n 0, 1)), (32, (.iconst 0, 1)), (33, (.putfield 23, 3)), (36, (.aload_n 0, 1)), (37, (.bipush 100, 2)), (39, (.newarray .int, 2)), (41, (.putfield 26, 3)), (44, (.return_, 1))] := DL.of (by decide +kernel)
set_option maxRecDepth 20000 in
theorem dlX2_clear_0 : DL cX2_clear [(0, (.aload_n 0, 1)), (1, (.bipush 10, 2)), (3, (.putfield 9, 3)), (6, (.aload_n 0, 1)), (7, (.iconst 0, 1)), (8, (.putfield 13, 3)), (11, (.aload_n 0, 1)), (12, (.iconst 0, 1)), (13, (.putfield 23, 3)), (16, (.return_, 1))] := DL.of (by decide +kernel)
set_option maxRecDepth 20000 in
theorem dlX2_addStep_0 : DL cX2_addStep [(0, (.aload_n 0, 1)), (1, (.getfield 23, 3)), (4, (.bipush 100, 2)), (6, (.if_icmp .ge 23, 3)), (9, (.aload_n 0, 1)), (10, (.getfield 26, 3)), (13, (.aload_n 0, 1)), (14, (.getfield 23, 3)), (17, (.iload_n 1, 1)), (18, (.iastore, 1)), (19, (.aload_n 0, 1)), (20, (.dup, 1)), (21, (.getfield 23, 3)), (24, (.iconst 1, 1)), (25, (.iadd, 1)), (26, (.putfield 23, 3)), (29, (.return_, 1))] := DL.of (by decide +kernel)
set_option maxRecDepth 20000 in
theorem dlX2_addClause_0 : DL cX2_addClause [(0, (.aload_n 0, 1)), (1, (.getfield 13, 3)), (4, (.bipush 10, 2)), (6, (.if_icmp .ge 36, 3)), (9, (.aload_n 0, 1)), (10, (.getfield 16, 3)), (13, (.aload_n 0, 1)), (14, (.getfield 13, 3)), (17, (.iload_n 1, 1)), (18, (.iastore, 1)), (19, (.aload_n 0, 1)), (20, (.getfield 20, 3)), (23, (.aload_n 0, 1)), (24, (.getfield 13, 3)), (27, (.aload_n 0, 1)), (28, (.getfield 23, 3)), (31, (.iastore, 1)), (32, (.aload_n 0, 1)), (33, (.dup, 1)), (34, (.getfield 13, 3)), (37, (.iconst 1, 1)), (38, (.iadd, 1)), (39, (.putfield 13, 3)), (42, (.return_, 1))] := DL.of (by decide +kernel)
set_option maxRecDepth 20000 in
theorem dlX2_newsBy_0 : DL cX2_newsBy [(0, (.iconst 1, 1)), (1, (.istore_n 2, 1)), (2, (.iconst 0, 1)), (3, (.istore_n 3, 1)), (4, (.iconst 0, 1)), (5, (.istore 4, 2)), (7, (.iload 4, 2)), (9, (.aload_n 0, 1)), (10, (.getfield 13, 3)), (13, (.if_icmp .ge 43, 3)), (16, (.aload_n 0, 1)), (17, (.iload_n 3, 1)), (18, (.aload_n 0, 1)), (19, (.getfield 20, 3)), (22, (.iload 4, 2)), (24, (.iaload, 1)), (25, (.aload_n 1, 1)), (26, (.invokevirtual 29, 3)), (29, (.ifCond .eq 13, 3)), (32, (.iload_n 2, 1)), (33, (.aload_n 0, 1)), (34, (.getfield 16, 3)), (37, (.iload 4, 2)), (39, (.iaload, 1)), (40, (.iadd, 1)), (41, (.istore_n 2, 1)), (42, (.aload_n 0, 1)), (43, (.getfield 20, 3)), (46, (.iload 4, 2)), (48, (.iaload, 1)), (49, (.istore_n 3, 1)), (50, (.iinc 4 1, 3)), (53, (.goto (-46), 3)), (56, (.iconst 0, 1)), (57, (.iload_n 2, 1)), (58, (.invokestatic 33, 3)), (61, (.ireturn, 1))] := DL.of (by decide +kernel)
set_option maxRecDepth 20000 in
theorem dlX2_isTrue_0 : DL cX2_isTrue [(0, (.iconst 0, 1)), (1, (.istore 4, 2)), (3, (.iload_n 1, 1)), (4, (.istore 5, 2)), (6, (.iload 5, 2)), (8, (.iload_n 2, 1)), (9, (.if_icmp .ge 97, 3)), (12, (.aload_n 0, 1)), (13, (.getfield 26, 3)), (16, (.iload 5, 2)), (18, (.iaload, 1)), (19, (.istore 6, 2)), (21, (.iload 6, 2)), (23, (.iconst (-1), 1)), (24, (.if_icmp .ne 12, 3)), (27, (.iload 4, 2)), (29, (.iconst 1, 1)), (30, (.ixor, 1)), (31, (.istore 4, 2)), (33, (.goto 67, 3)), (36, (.iload 6, 2)), (38, (.bipush (-2), 2)), (40, (.if_icmp .ne 18, 3)), (43, (.iload 4, 2)), (45, (.iconst 1, 1)), (46, (.ishr, 1)), (47, (.iload 4, 2)), (49, (.bipush (-2), 2)), (51, (.ior, 1)), (52, (.iand, 1)), (53, (.istore 4, 2)), (55, (.goto 45, 3)), (58, (.iload 6, 2)), (60, (.bipush (-3), 2)), (62, (.if_icmp .ne 17, 3)), (65, (.iload 4, 2)), (67, (.iconst 1, 1)), (68, (.ishr, 1)), (69, (.iload 4, 2)), (71, (.iconst 1, 1))] := DL.of (by decide +kernel)
set_option maxRecDepth 20000 in
theorem dlX2_isTrue_1 : DL cX2_isTrue [(72, (.iand, 1)), (73, (.ior, 1)), (74, (.istore 4, 2)), (76, (.goto 24, 3)), (79, (.iload 4, 2)), (81, (.iconst 1, 1)), (82, (.ishl, 1)), (83, (.iload 6, 2)), (85, (.aload_n 3, 1)), (86, (.invokestatic 39, 3)), (89, (.ifCond .eq 7, 3)), (92, (.iconst 1, 1)), (93, (.goto 4, 3)), (96, (.iconst 0, 1)), (97, (.ior, 1)), (98, (.istore 4, 2)), (100, (.iinc 5 1, 3)), (103, (.goto (-97), 3)), (106, (.iload 4, 2)), (108, (.iconst 1, 1)), (109, (.iand, 1)), (110, (.iconst 1, 1)), (111, (.if_icmp .ne 7, 3)), (114, (.iconst 1, 1)), (115, (.goto 4, 3)), (118, (.iconst 0, 1)), (119, (.ireturn, 1))] := DL.of (by decide +kernel)
set_option maxRecDepth 20000 in
theorem dlX2_testStep_0 : DL cX2_testStep [(0, (.iload_n 0, 1)), (1, (.sipush 300, 3)), (4, (.imul, 1)), (5, (.iload_n 1, 1)), (6, (.bipush 100, 2)), (8, (.imul, 1)), (9, (.iadd, 1)), (10, (.iload_n 2, 1)), (11, (.iadd, 1)), (12, (.ireturn, 1))] := DL.of (by decide +kernel)
set_option maxRecDepth 20000 in
theorem dlX2_passes_0 : DL cX2_passes [(0, (.aload_n 1, 1)), (1, (.iload_n 0, 1)), (2, (.sipush 300, 3)), (5, (.idiv, 1)), (6, (.iaload, 1)), (7, (.istore_n 2, 1)), (8, (.iload_n 0, 1)), (9, (.bipush 100, 2)), (11, (.irem, 1)), (12, (.istore_n 3, 1)), (13, (.iload_n 0, 1)), (14, (.bipush 100, 2)), (16, (.idiv, 1)), (17, (.iconst 3, 1)), (18, (.irem, 1)), (19, (.lookupswitch 47 #[(0, 25), (1, 36)], 25)), (44, (.iload_n 2, 1)), (45, (.iload_n 3, 1)), (46, (.if_icmp .ge 7, 3)), (49, (.iconst 1, 1)), (50, (.goto 4, 3)), (53, (.iconst 0, 1)), (54, (.ireturn, 1)), (55, (.iload_n 2, 1)), (56, (.iload_n 3, 1)), (57, (.if_icmp .ne 7, 3)), (60, (.iconst 1, 1)), (61, (.goto 4, 3)), (64, (.iconst 0, 1)), (65, (.ireturn, 1)), (66, (.iload_n 2, 1)), (67, (.iload_n 3, 1)), (68, (.if_icmp .le 7, 3)), (71, (.iconst 1, 1)), (72, (.goto 4, 3)), (75, (.iconst 0, 1)), (76, (.ireturn, 1))] := DL.of (by decide +kernel)
set_option maxRecDepth 20000 in
theorem dlX3_init_0 : DL cX3_init [(0, (.aload_n 0, 1)), (1, (.invokespecial 3, 3)), (4, (.aload_n 0, 1)), (5, (.bipush 100, 2)), (7, (.putfield 9, 3)), (10, (.aload_n 0, 1)), (11, (.bipush 6, 2)), (13, (.newarray .int, 2)), (15, (.putfield 15, 3)), (18, (.aload_n 0, 1)), (19, (.bipush 6, 2)), (21, (.newarray .boolean, 2)), (23, (.putfield 19, 3)), (26, (.return_, 1))] := DL.of (by decide +kernel)
set_option maxRecDepth 20000 in
theorem dlX3_copyFrom_0 : DL cX3_copyFrom [(0, (.aload_n 0, 1)), (1, (.aload_n 1, 1)), (2, (.getfield 9, 3)), (5, (.putfield 9, 3)), (8, (.iconst 0, 1)), (9, (.istore_n 2, 1)), (10, (.iload_n 2, 1)), (11, (.bipush 6, 2)), (13, (.if_icmp .ge 33, 3)), (16, (.aload_n 0, 1)), (17, (.getfield 15, 3)), (20, (.iload_n 2, 1)), (21, (.aload_n 1, 1)), (22, (.getfield 15, 3)), (25, (.iload_n 2, 1)), (26, (.iaload, 1)), (27, (.iastore, 1)), (28, (.aload_n 0, 1)), (29, (.getfield 19, 3)), (32, (.iload_n 2, 1)), (33, (.aload_n 1, 1)), (34, (.getfield 19, 3)), (37, (.iload_n 2, 1)), (38, (.baload, 1)), (39, (.bastore, 1)), (40, (.iinc 2 1, 3)), (43, (.goto (-33), 3)), (46, (.return_, 1))] := DL.of (by decide +kernel)
set_option maxRecDepth 20000 in
theorem dlX3_isUp_0 : DL cX3_isUp [(0, (.aload_n 0, 1)), (1, (.getfield 15, 3)), (4, (.iload_n 1, 1)), (5, (.iaload, 1)), (6, (.aload_n 0, 1)), (7, (.getfield 9, 3)), (10, (.if_icmp .ne 7, 3)), (13, (.iconst 1, 1)), (14, (.goto 4, 3)), (17, (.iconst 0, 1)), (18, (.ireturn, 1))] := DL.of (by decide +kernel)
set_option maxRecDepth 20000 in
theorem dlX4_init_0 : DL cX4_init [(0, (.aload_n 0, 1)), (1, (.invokespecial 3, 3)), (4, (.aload_n 0, 1)), (5, (.bipush 7, 2)), (7, (.anewarray 9, 3)), (10, (.putfield 11, 3)), (13, (.aload_n 0, 1)), (14, (.bipush 6, 2)), (16, (.newarray .int, 2)), (18, (.putfield 17, 3)), (21, (.aload_n 0, 1)), (22, (.bipush 6, 2)), (24, (.newarray .int, 2)), (26, (.putfield 21, 3)), (29, (.aload_n 0, 1)), (30, (.bipush (-5), 2)), (32, (.putfield 24, 3)), (35, (.aload_n 0, 1)), (36, (.aload_n 1, 1)), (37, (.putfield 28, 3)), (40, (.iconst 0, 1)), (41, (.istore_n 2, 1)), (42, (.iload_n 2, 1)), (43, (.aload_n 0, 1)), (44, (.getfield 11, 3)), (47, (.arraylength, 1)), (48, (.if_icmp .ge 22, 3)), (51, (.aload_n 0, 1)), (52, (.getfield 11, 3)), (55, (.iload_n 2, 1)), (56, (.new 9, 3)), (59, (.dup, 1)), (60, (.invokespecial 32, 3)), (63, (.aastore, 1)), (64, (.iinc 2 1, 3)), (67, (.goto (-25), 3)), (70, (.return_, 1))] := DL.of (by decide +kernel)
set_option maxRecDepth 20000 in
theorem dlX4_findOrder_0 : DL cX4_findOrder [(0, (.aload_n 0, 1)), (1, (.bipush (-5), 2)), (3, (.putfield 24, 3)), (6, (.aload_n 0, 1)), (7, (.getfield 11, 3)), (10, (.iconst 0, 1)), (11, (.aaload, 1)), (12, (.aload_n 0, 1)), (13, (.getfield 28, 3)), (16, (.getfield 33, 3)), (19, (.invokevirtual 39, 3)), (22, (.aload_n 0, 1)), (23, (.iconst 0, 1)), (24, (.iconst 0, 1)), (25, (.iconst 0, 1)), (26, (.invokevirtual 43, 3)), (29, (.return_, 1))] := DL.of (by decide +kernel)
set_option maxRecDepth 20000 in
theorem dlX4_tryOrders_0 : DL cX4_tryOrders [(0, (.aload_n 0, 1)), (1, (.getfield 24, 3)), (4, (.bipush (-5), 2)), (6, (.if_icmp .eq 12, 3)), (9, (.iload_n 3, 1)), (10, (.aload_n 0, 1)), (11, (.getfield 24, 3)), (14, (.if_icmp .lt 4, 3)), (17, (.return_, 1)), (18, (.iload_n 1, 1)), (19, (.aload_n 0, 1)), (20, (.getfield 28, 3)), (23, (.getfield 47, 3)), (26, (.if_icmp .lt 9, 3)), (29, (.aload_n 0, 1)), (30, (.iload_n 3, 1)), (31, (.invokevirtual 50, 3)), (34, (.return_, 1)), (35, (.iconst 0, 1)), (36, (.istore 4, 2)), (38, (.iload 4, 2)), (40, (.aload_n 0, 1)), (41, (.getfield 28, 3)), (44, (.getfield 47, 3)), (47, (.if_icmp .ge 76, 3)), (50, (.iload_n 2, 1)), (51, (.iload 4, 2)), (53, (.ishr, 1)), (54, (.iconst 1, 1)), (55, (.iand, 1)), (56, (.ifCond .ne 61, 3)), (59, (.aload_n 0, 1)), (60, (.getfield 17, 3)), (63, (.iload_n 1, 1)), (64, (.iload 4, 2)), (66, (.iastore, 1)), (67, (.aload_n 0, 1)), (68, (.getfield 11, 3)), (71, (.iload_n 1, 1)), (72, (.iconst 1, 1))] := DL.of (by decide +kernel)
set_option maxRecDepth 20000 in
theorem dlX4_tryOrders_1 : DL cX4_tryOrders [(73, (.iadd, 1)), (74, (.aaload, 1)), (75, (.aload_n 0, 1)), (76, (.getfield 11, 3)), (79, (.iload_n 1, 1)), (80, (.aaload, 1)), (81, (.invokevirtual 39, 3)), (84, (.aload_n 0, 1)), (85, (.aload_n 0, 1)), (86, (.getfield 11, 3)), (89, (.iload_n 1, 1)), (90, (.iconst 1, 1)), (91, (.iadd, 1)), (92, (.aaload, 1)), (93, (.iload 4, 2)), (95, (.invokevirtual 54, 3)), (98, (.istore 5, 2)), (100, (.aload_n 0, 1)), (101, (.iload_n 1, 1)), (102, (.iconst 1, 1)), (103, (.iadd, 1)), (104, (.iload_n 2, 1)), (105, (.iconst 1, 1)), (106, (.iload 4, 2)), (108, (.ishl, 1)), (109, (.ior, 1)), (110, (.iload_n 3, 1)), (111, (.iload 5, 2)), (113, (.iadd, 1)), (114, (.invokevirtual 43, 3)), (117, (.iinc 4 1, 3)), (120, (.goto (-82), 3)), (123, (.return_, 1))] := DL.of (by decide +kernel)
set_option maxRecDepth 20000 in
theorem dlX4_turn_0 : DL cX4_turn [(0, (.iconst 0, 1)), (1, (.istore_n 3, 1)), (2, (.iload_n 3, 1)), (3, (.bipush 20, 2)), (5, (.if_icmp .ge 36, 3)), (8, (.aload_n 1, 1)), (9, (.iload_n 2, 1)), (10, (.invokevirtual 58, 3)), (13, (.ifCond .ne 28, 3)), (16, (.aload_n 1, 1)), (17, (.getfield 62, 3)), (20, (.iload_n 2, 1)), (21, (.baload, 1)), (22, (.ifCond .ne 19, 3)), (25, (.aload_n 0, 1)), (26, (.getfield 28, 3)), (29, (.aload_n 1, 1)), (30, (.iload_n 2, 1)), (31, (.invokevirtual 66, 3)), (34, (.pop, 1)), (35, (.iinc 3 1, 3)), (38, (.goto (-36), 3)), (41, (.iload_n 3, 1)), (42, (.ireturn, 1))] := DL.of (by decide +kernel)
set_option maxRecDepth 20000 in
theorem dlX4_findRow_0 : DL cX4_findRow [(0, (.aload_n 0, 1)), (1, (.bipush (-5), 2)), (3, (.putfield 24, 3)), (6, (.aload_n 0, 1)), (7, (.getfield 11, 3)), (10, (.iconst 0, 1)), (11, (.aaload, 1)), (12, (.aload_n 0, 1)), (13, (.getfield 28, 3)), (16, (.getfield 33, 3)), (19, (.invokevirtual 39, 3)), (22, (.aload_n 0, 1)), (23, (.iconst 0, 1)), (24, (.iload_n 1, 1)), (25, (.invokevirtual 69, 3)), (28, (.return_, 1))] := DL.of (by decide +kernel)
set_option maxRecDepth 20000 in
theorem dlX4_tryRows_0 : DL cX4_tryRows [(0, (.iload_n 1, 1)), (1, (.iload_n 2, 1)), (2, (.if_icmp .ge 9, 3)), (5, (.iload_n 1, 1)), (6, (.bipush 6, 2)), (8, (.if_icmp .lt 31, 3)), (11, (.aload_n 0, 1)), (12, (.getfield 28, 3)), (15, (.aload_n 0, 1)), (16, (.getfield 11, 3)), (19, (.iload_n 1, 1)), (20, (.aaload, 1)), (21, (.invokevirtual 73, 3)), (24, (.istore_n 3, 1)), (25, (.iload_n 3, 1)), (26, (.aload_n 0, 1)), (27, (.getfield 24, 3)), (30, (.if_icmp .le 8, 3)), (33, (.aload_n 0, 1)), (34, (.iload_n 3, 1)), (35, (.invokevirtual 50, 3)), (38, (.return_, 1)), (39, (.iconst 0, 1)), (40, (.istore_n 3, 1)), (41, (.iload_n 3, 1)), (42, (.aload_n 0, 1)), (43, (.getfield 28, 3)), (46, (.getfield 47, 3)), (49, (.if_icmp .ge 58, 3)), (52, (.aload_n 0, 1)), (53, (.getfield 17, 3)), (56, (.iload_n 1, 1)), (57, (.iload_n 3, 1)), (58, (.iastore, 1)), (59, (.aload_n 0, 1)), (60, (.getfield 11, 3)), (63, (.iload_n 1, 1)), (64, (.iconst 1, 1)), (65, (.iadd, 1)), (66, (.aaload, 1))] := DL.of (by decide +kernel)
set_option maxRecDepth 20000 in
theorem dlX4_tryRows_1 : DL cX4_tryRows [(67, (.aload_n 0, 1)), (68, (.getfield 11, 3)), (71, (.iload_n 1, 1)), (72, (.aaload, 1)), (73, (.invokevirtual 39, 3)), (76, (.aload_n 0, 1)), (77, (.getfield 28, 3)), (80, (.aload_n 0, 1)), (81, (.getfield 11, 3)), (84, (.iload_n 1, 1)), (85, (.iconst 1, 1)), (86, (.iadd, 1)), (87, (.aaload, 1)), (88, (.iload_n 3, 1)), (89, (.invokevirtual 66, 3)), (92, (.pop, 1)), (93, (.aload_n 0, 1)), (94, (.iload_n 1, 1)), (95, (.iconst 1, 1)), (96, (.iadd, 1)), (97, (.iload_n 2, 1)), (98, (.invokevirtual 69, 3)), (101, (.iinc 3 1, 3)), (104, (.goto (-63), 3)), (107, (.return_, 1))] := DL.of (by decide +kernel)
set_option maxRecDepth 20000 in
theorem dlX4_keep_0 : DL cX4_keep [(0, (.aload_n 0, 1)), (1, (.iload_n 1, 1)), (2, (.putfield 24, 3)), (5, (.aload_n 0, 1)), (6, (.getfield 17, 3)), (9, (.iconst 0, 1)), (10, (.aload_n 0, 1)), (11, (.getfield 21, 3)), (14, (.iconst 0, 1)), (15, (.bipush 6, 2)), (17, (.invokestatic 77, 3)), (20, (.return_, 1))] := DL.of (by decide +kernel)
set_option maxRecDepth 20000 in
theorem dlX5_init_0 : DL cX5_init [(0, (.aload_n 0, 1)), (1, (.invokespecial 1, 3)), (4, (.aload_n 0, 1)), (5, (.bipush 100, 2)), (7, (.newarray .byte, 2)), (9, (.putfield 9, 3)), (12, (.aload_n 0, 1)), (13, (.iconst 0, 1)), (14, (.putfield 13, 3)), (17, (.aload_n 0, 1)), (18, (.iconst 0, 1)), (19, (.putfield 17, 3)), (22, (.aload_n 0, 1)), (23, (.iconst (-1), 1)), (24, (.putfield 20, 3)), (27, (.aload_n 0, 1)), (28, (.iconst 0, 1)), (29, (.putfield 23, 3)), (32, (.aload_n 0, 1)), (33, (.aconst_null, 1)), (34, (.putfield 27, 3)), (37, (.return_, 1))] := DL.of (by decide +kernel)
set_option maxRecDepth 20000 in
theorem dlX5_take_0 : DL cX5_take [(0, (.aload_n 0, 1)), (1, (.getfield 13, 3)), (4, (.bipush 100, 2)), (6, (.if_icmp .lt 5, 3)), (9, (.iconst 0, 1)), (10, (.ireturn, 1)), (11, (.aload_n 0, 1)), (12, (.getfield 9, 3)), (15, (.aload_n 0, 1)), (16, (.getfield 13, 3)), (19, (.iload_n 1, 1)), (20, (.bastore, 1)), (21, (.aload_n 0, 1)), (22, (.dup, 1)), (23, (.getfield 13, 3)), (26, (.iconst 1, 1)), (27, (.iadd, 1)), (28, (.putfield 13, 3)), (31, (.iconst 1, 1)), (32, (.ireturn, 1))] := DL.of (by decide +kernel)
set_option maxRecDepth 20000 in
theorem dlX5_readInto_0 : DL cX5_readInto [(0, (.aload_n 0, 1)), (1, (.aload_n 1, 1)), (2, (.putfield 27, 3)), (5, (.aload_n 0, 1)), (6, (.getfield 27, 3)), (9, (.invokevirtual 31, 3)), (12, (.aload_n 0, 1)), (13, (.iconst 0, 1)), (14, (.putfield 23, 3)), (17, (.aload_n 0, 1)), (18, (.iconst (-1), 1)), (19, (.putfield 17, 3)), (22, (.aload_n 0, 1)), (23, (.invokevirtual 36, 3)), (26, (.aload_n 0, 1)), (27, (.invokevirtual 39, 3)), (30, (.iconst 1, 1)), (31, (.istore_n 2, 1)), (32, (.iload_n 2, 1)), (33, (.bipush 10, 2)), (35, (.if_icmp .ge 33, 3)), (38, (.aload_n 0, 1)), (39, (.getfield 23, 3)), (42, (.ifCond .ne 26, 3)), (45, (.aload_n 0, 1)), (46, (.getfield 20, 3)), (49, (.bipush 59, 2)), (51, (.if_icmp .ne 17, 3)), (54, (.aload_n 0, 1)), (55, (.invokevirtual 36, 3)), (58, (.aload_n 0, 1)), (59, (.invokevirtual 39, 3)), (62, (.iinc 2 1, 3)), (65, (.goto (-33), 3)), (68, (.aload_n 0, 1)), (69, (.getfield 23, 3)), (72, (.ifCond .ne 15, 3)), (75, (.aload_n 0, 1)), (76, (.getfield 20, 3)), (79, (.iconst (-1), 1))] := DL.of (by decide +kernel)
set_option maxRecDepth 20000 in
theorem dlX5_readInto_1 : DL cX5_readInto [(80, (.if_icmp .ne 7, 3)), (83, (.iconst 1, 1)), (84, (.goto 4, 3)), (87, (.iconst 0, 1)), (88, (.ireturn, 1))] := DL.of (by decide +kernel)
set_option maxRecDepth 20000 in
theorem dlX5_step_0 : DL cX5_step [(0, (.aload_n 0, 1)), (1, (.dup, 1)), (2, (.getfield 17, 3)), (5, (.iconst 1, 1)), (6, (.iadd, 1)), (7, (.putfield 17, 3)), (10, (.aload_n 0, 1)), (11, (.aload_n 0, 1)), (12, (.getfield 17, 3)), (15, (.aload_n 0, 1)), (16, (.getfield 13, 3)), (19, (.if_icmp .ge 15, 3)), (22, (.aload_n 0, 1)), (23, (.getfield 9, 3)), (26, (.aload_n 0, 1)), (27, (.getfield 17, 3)), (30, (.baload, 1)), (31, (.goto 4, 3)), (34, (.iconst (-1), 1)), (35, (.putfield 20, 3)), (38, (.return_, 1))] := DL.of (by decide +kernel)
set_option maxRecDepth 20000 in
theorem dlX5_need_0 : DL cX5_need [(0, (.aload_n 0, 1)), (1, (.getfield 23, 3)), (4, (.ifCond .ne 18, 3)), (7, (.aload_n 0, 1)), (8, (.getfield 20, 3)), (11, (.iload_n 1, 1)), (12, (.if_icmp .ne 10, 3)), (15, (.aload_n 0, 1)), (16, (.invokevirtual 36, 3)), (19, (.goto 8, 3)), (22, (.aload_n 0, 1)), (23, (.iconst 1, 1)), (24, (.putfield 23, 3)), (27, (.return_, 1))] := DL.of (by decide +kernel)
set_option maxRecDepth 20000 in
theorem dlX5_word_0 : DL cX5_word [(0, (.iconst 0, 1)), (1, (.istore_n 2, 1)), (2, (.iload_n 2, 1)), (3, (.aload_n 1, 1)), (4, (.invokevirtual 42, 3)), (7, (.if_icmp .ge 18, 3)), (10, (.aload_n 0, 1)), (11, (.aload_n 1, 1)), (12, (.iload_n 2, 1)), (13, (.invokevirtual 47, 3)), (16, (.invokevirtual 51, 3)), (19, (.iinc 2 1, 3)), (22, (.goto (-20), 3)), (25, (.aload_n 0, 1)), (26, (.bipush 32, 2)), (28, (.invokevirtual 51, 3)), (31, (.return_, 1))] := DL.of (by decide +kernel)
set_option maxRecDepth 20000 in
theorem dlX5_clause_0 : DL cX5_clause [(0, (.aload_n 0, 1)), (1, (.getfield 20, 3)), (4, (.bipush 112, 2)), (6, (.if_icmp .ne 25, 3)), (9, (.aload_n 0, 1)), (10, (.ldc 55, 2)), (12, (.invokevirtual 57, 3)), (15, (.aload_n 0, 1)), (16, (.getfield 27, 3)), (19, (.iconst 1, 1)), (20, (.aload_n 0, 1)), (21, (.invokevirtual 61, 3)), (24, (.invokestatic 64, 3)), (27, (.putfield 70, 3)), (30, (.return_, 1)), (31, (.aload_n 0, 1)), (32, (.getfield 20, 3)), (35, (.bipush 110, 2)), (37, (.if_icmp .ne 7, 3)), (40, (.iconst 1, 1)), (41, (.goto 4, 3)), (44, (.iconst 0, 1)), (45, (.istore_n 1, 1)), (46, (.aload_n 0, 1)), (47, (.iload_n 1, 1)), (48, (.ifCond .eq 8, 3)), (51, (.ldc 72, 2)), (53, (.goto 5, 3)), (56, (.ldc 74, 2)), (58, (.invokevirtual 57, 3)), (61, (.iload_n 1, 1)), (62, (.ifCond .eq 10, 3)), (65, (.aload_n 0, 1)), (66, (.invokevirtual 61, 3)), (69, (.goto 8, 3)), (72, (.aload_n 0, 1)), (73, (.invokevirtual 61, 3)), (76, (.ineg, 1)), (77, (.istore_n 2, 1)), (78, (.aload_n 0, 1))] := DL.of (by decide +kernel)
set_option maxRecDepth 20000 in
theorem dlX5_clause_1 : DL cX5_clause [(79, (.bipush 32, 2)), (81, (.invokevirtual 51, 3)), (84, (.aload_n 0, 1)), (85, (.iconst 0, 1)), (86, (.invokevirtual 76, 3)), (89, (.aload_n 0, 1)), (90, (.getfield 27, 3)), (93, (.iload_n 2, 1)), (94, (.invokevirtual 80, 3)), (97, (.return_, 1))] := DL.of (by decide +kernel)
set_option maxRecDepth 20000 in
theorem dlX5_number_0 : DL cX5_number [(0, (.aload_n 0, 1)), (1, (.getfield 23, 3)), (4, (.ifCond .ne 10, 3)), (7, (.aload_n 0, 1)), (8, (.invokevirtual 83, 3)), (11, (.ifCond .ne 10, 3)), (14, (.aload_n 0, 1)), (15, (.iconst 1, 1)), (16, (.putfield 23, 3)), (19, (.iconst 0, 1)), (20, (.ireturn, 1)), (21, (.aload_n 0, 1)), (22, (.getfield 20, 3)), (25, (.bipush 48, 2)), (27, (.isub, 1)), (28, (.istore_n 1, 1)), (29, (.aload_n 0, 1)), (30, (.invokevirtual 36, 3)), (33, (.aload_n 0, 1)), (34, (.invokevirtual 83, 3)), (37, (.ifCond .eq 20, 3)), (40, (.iload_n 1, 1)), (41, (.bipush 10, 2)), (43, (.imul, 1)), (44, (.aload_n 0, 1)), (45, (.getfield 20, 3)), (48, (.iadd, 1)), (49, (.bipush 48, 2)), (51, (.isub, 1)), (52, (.istore_n 1, 1)), (53, (.aload_n 0, 1)), (54, (.invokevirtual 36, 3)), (57, (.iload_n 1, 1)), (58, (.ireturn, 1))] := DL.of (by decide +kernel)
set_option maxRecDepth 20000 in
theorem dlX5_isDigit_0 : DL cX5_isDigit [(0, (.aload_n 0, 1)), (1, (.getfield 20, 3)), (4, (.bipush 48, 2)), (6, (.if_icmp .lt 16, 3)), (9, (.aload_n 0, 1)), (10, (.getfield 20, 3)), (13, (.bipush 57, 2)), (15, (.if_icmp .gt 7, 3)), (18, (.iconst 1, 1)), (19, (.goto 4, 3)), (22, (.iconst 0, 1)), (23, (.ireturn, 1))] := DL.of (by decide +kernel)
set_option maxRecDepth 20000 in
theorem dlX5_either_0 : DL cX5_either [(0, (.aload_n 0, 1)), (1, (.iload_n 1, 1)), (2, (.invokevirtual 87, 3)), (5, (.iconst 0, 1)), (6, (.istore_n 2, 1)), (7, (.iload_n 2, 1)), (8, (.bipush 100, 2)), (10, (.if_icmp .ge 43, 3)), (13, (.aload_n 0, 1)), (14, (.getfield 23, 3)), (17, (.ifCond .ne 36, 3)), (20, (.aload_n 0, 1)), (21, (.getfield 20, 3)), (24, (.bipush 124, 2)), (26, (.if_icmp .ne 27, 3)), (29, (.aload_n 0, 1)), (30, (.invokevirtual 36, 3)), (33, (.aload_n 0, 1)), (34, (.iload_n 1, 1)), (35, (.invokevirtual 87, 3)), (38, (.aload_n 0, 1)), (39, (.getfield 27, 3)), (42, (.bipush (-3), 2)), (44, (.invokevirtual 90, 3)), (47, (.iinc 2 1, 3)), (50, (.goto (-43), 3)), (53, (.return_, 1))] := DL.of (by decide +kernel)
set_option maxRecDepth 20000 in
theorem dlX5_both_0 : DL cX5_both [(0, (.aload_n 0, 1)), (1, (.iload_n 1, 1)), (2, (.invokevirtual 93, 3)), (5, (.iconst 0, 1)), (6, (.istore_n 2, 1)), (7, (.iload_n 2, 1)), (8, (.bipush 100, 2)), (10, (.if_icmp .ge 43, 3)), (13, (.aload_n 0, 1)), (14, (.getfield 23, 3)), (17, (.ifCond .ne 36, 3)), (20, (.aload_n 0, 1)), (21, (.getfield 20, 3)), (24, (.bipush 38, 2)), (26, (.if_icmp .ne 27, 3)), (29, (.aload_n 0, 1)), (30, (.invokevirtual 36, 3)), (33, (.aload_n 0, 1)), (34, (.iload_n 1, 1)), (35, (.invokevirtual 93, 3)), (38, (.aload_n 0, 1)), (39, (.getfield 27, 3)), (42, (.bipush (-2), 2)), (44, (.invokevirtual 90, 3)), (47, (.iinc 2 1, 3)), (50, (.goto (-43), 3)), (53, (.return_, 1))] := DL.of (by decide +kernel)
set_option maxRecDepth 20000 in
theorem dlX5_factor_0 : DL cX5_factor [(0, (.aload_n 0, 1)), (1, (.getfield 23, 3)), (4, (.ifCond .eq 4, 3)), (7, (.return_, 1)), (8, (.aload_n 0, 1)), (9, (.getfield 20, 3)), (12, (.bipush 33, 2)), (14, (.if_icmp .ne 30, 3)), (17, (.iload_n 1, 1)), (18, (.iconst 4, 1)), (19, (.if_icmp .ge 25, 3)), (22, (.aload_n 0, 1)), (23, (.invokevirtual 36, 3)), (26, (.aload_n 0, 1)), (27, (.iload_n 1, 1)), (28, (.iconst 1, 1)), (29, (.iadd, 1)), (30, (.invokevirtual 93, 3)), (33, (.aload_n 0, 1)), (34, (.getfield 27, 3)), (37, (.iconst (-1), 1)), (38, (.invokevirtual 90, 3)), (41, (.goto 67, 3)), (44, (.aload_n 0, 1)), (45, (.getfield 20, 3)), (48, (.bipush 40, 2)), (50, (.if_icmp .ne 28, 3)), (53, (.iload_n 1, 1)), (54, (.iconst 4, 1)), (55, (.if_icmp .ge 23, 3)), (58, (.aload_n 0, 1)), (59, (.invokevirtual 36, 3)), (62, (.aload_n 0, 1)), (63, (.iload_n 1, 1)), (64, (.iconst 1, 1)), (65, (.iadd, 1)), (66, (.invokevirtual 76, 3)), (69, (.aload_n 0, 1)), (70, (.bipush 41, 2)), (72, (.invokevirtual 51, 3))] := DL.of (by decide +kernel)
set_option maxRecDepth 20000 in
theorem dlX5_factor_1 : DL cX5_factor [(75, (.goto 33, 3)), (78, (.aload_n 0, 1)), (79, (.ldc 96, 2)), (81, (.invokevirtual 98, 3)), (84, (.istore_n 2, 1)), (85, (.aload_n 0, 1)), (86, (.ldc 102, 2)), (88, (.invokevirtual 98, 3)), (91, (.istore_n 3, 1)), (92, (.aload_n 0, 1)), (93, (.getfield 27, 3)), (96, (.iload_n 2, 1)), (97, (.iload_n 3, 1)), (98, (.aload_n 0, 1)), (99, (.invokevirtual 61, 3)), (102, (.invokestatic 104, 3)), (105, (.invokevirtual 90, 3)), (108, (.return_, 1))] := DL.of (by decide +kernel)
set_option maxRecDepth 20000 in
theorem dlX5_choice_0 : DL cX5_choice [(0, (.aload_n 0, 1)), (1, (.getfield 23, 3)), (4, (.ifCond .ne 11, 3)), (7, (.aload_n 0, 1)), (8, (.getfield 20, 3)), (11, (.iconst (-1), 1)), (12, (.if_icmp .ne 7, 3)), (15, (.iconst (-1), 1)), (16, (.goto 12, 3)), (19, (.aload_n 1, 1)), (20, (.aload_n 0, 1)), (21, (.getfield 20, 3)), (24, (.i2c, 1)), (25, (.invokevirtual 108, 3)), (28, (.istore_n 2, 1)), (29, (.iload_n 2, 1)), (30, (.ifCond .ge 10, 3)), (33, (.aload_n 0, 1)), (34, (.iconst 1, 1)), (35, (.putfield 23, 3)), (38, (.iconst 0, 1)), (39, (.ireturn, 1)), (40, (.aload_n 0, 1)), (41, (.invokevirtual 36, 3)), (44, (.iload_n 2, 1)), (45, (.ireturn, 1))] := DL.of (by decide +kernel)
set_option maxRecDepth 20000 in
theorem dlX6_init_0 : DL cX6_init [(0, (.aload_n 0, 1)), (1, (.invokespecial 3, 3)), (4, (.aload_n 0, 1)), (5, (.iconst 0, 1)), (6, (.putfield 9, 3)), (9, (.aload_n 0, 1)), (10, (.iload_n 1, 1)), (11, (.putfield 15, 3)), (14, (.aload_n 0, 1)), (15, (.iload_n 1, 1)), (16, (.iconst 3, 1)), (17, (.imul, 1)), (18, (.newarray .int, 2)), (20, (.putfield 18, 3)), (23, (.return_, 1))] := DL.of (by decide +kernel)
set_option maxRecDepth 20000 in
theorem dlX6_empty_0 : DL cX6_empty [(0, (.aload_n 0, 1)), (1, (.iconst 0, 1)), (2, (.putfield 9, 3)), (5, (.iconst 0, 1)), (6, (.ireturn, 1))] := DL.of (by decide +kernel)
set_option maxRecDepth 20000 in
theorem dlX6_put_0 : DL cX6_put [(0, (.aload_n 0, 1)), (1, (.getfield 9, 3)), (4, (.aload_n 0, 1)), (5, (.getfield 15, 3)), (8, (.if_icmp .lt 6, 3)), (11, (.bipush (-4), 2)), (13, (.ireturn, 1)), (14, (.aload_n 0, 1)), (15, (.getfield 18, 3)), (18, (.aload_n 0, 1)), (19, (.getfield 9, 3)), (22, (.iconst 3, 1)), (23, (.imul, 1)), (24, (.iload_n 1, 1)), (25, (.iastore, 1)), (26, (.aload_n 0, 1)), (27, (.getfield 18, 3)), (30, (.aload_n 0, 1)), (31, (.getfield 9, 3)), (34, (.iconst 3, 1)), (35, (.imul, 1)), (36, (.iconst 1, 1)), (37, (.iadd, 1)), (38, (.iload_n 2, 1)), (39, (.iastore, 1)), (40, (.aload_n 0, 1)), (41, (.getfield 18, 3)), (44, (.aload_n 0, 1)), (45, (.getfield 9, 3)), (48, (.iconst 3, 1)), (49, (.imul, 1)), (50, (.iconst 2, 1)), (51, (.iadd, 1)), (52, (.iload_n 3, 1)), (53, (.iastore, 1)), (54, (.aload_n 0, 1)), (55, (.dup, 1)), (56, (.getfield 9, 3)), (59, (.iconst 1, 1)), (60, (.iadd, 1))] := DL.of (by decide +kernel)
set_option maxRecDepth 20000 in
theorem dlX6_put_1 : DL cX6_put [(61, (.putfield 9, 3)), (64, (.aload_n 0, 1)), (65, (.getfield 9, 3)), (68, (.ireturn, 1))] := DL.of (by decide +kernel)
set_option maxRecDepth 20000 in
theorem dlX6_cell_0 : DL cX6_cell [(0, (.aload_n 0, 1)), (1, (.getfield 18, 3)), (4, (.iload_n 1, 1)), (5, (.iconst 3, 1)), (6, (.imul, 1)), (7, (.iload_n 2, 1)), (8, (.iadd, 1)), (9, (.iaload, 1)), (10, (.ireturn, 1))] := DL.of (by decide +kernel)
set_option maxRecDepth 20000 in
theorem dlX6_copyFrom_0 : DL cX6_copyFrom [(0, (.aload_n 1, 1)), (1, (.getfield 18, 3)), (4, (.iconst 0, 1)), (5, (.aload_n 0, 1)), (6, (.getfield 18, 3)), (9, (.iconst 0, 1)), (10, (.aload_n 0, 1)), (11, (.getfield 18, 3)), (14, (.arraylength, 1)), (15, (.invokestatic 22, 3)), (18, (.aload_n 0, 1)), (19, (.aload_n 1, 1)), (20, (.getfield 9, 3)), (23, (.putfield 9, 3)), (26, (.return_, 1))] := DL.of (by decide +kernel)
set_option maxRecDepth 20000 in
theorem dlX7_init_0 : DL cX7_init [(0, (.aload_n 0, 1)), (1, (.invokespecial 5, 3)), (4, (.aload_n 0, 1)), (5, (.iconst 0, 1)), (6, (.putfield 11, 3)), (9, (.aload_n 0, 1)), (10, (.bipush 6, 2)), (12, (.newarray .int, 2)), (14, (.putfield 15, 3)), (17, (.aload_n 0, 1)), (18, (.bipush 6, 2)), (20, (.newarray .int, 2)), (22, (.putfield 19, 3)), (25, (.aload_n 0, 1)), (26, (.bipush 24, 2)), (28, (.newarray .int, 2)), (30, (.putfield 22, 3)), (33, (.aload_n 0, 1)), (34, (.sipush 606, 3)), (37, (.newarray .int, 2)), (39, (.putfield 25, 3)), (42, (.aload_n 0, 1)), (43, (.new 28, 3)), (46, (.dup, 1)), (47, (.invokespecial 30, 3)), (50, (.putfield 31, 3)), (53, (.aload_n 0, 1)), (54, (.new 35, 3)), (57, (.dup, 1)), (58, (.iconst 5, 1)), (59, (.invokespecial 37, 3)), (62, (.putfield 40, 3)), (65, (.aload_n 0, 1)), (66, (.new 35, 3)), (69, (.dup, 1)), (70, (.bipush 10, 2)), (72, (.invokespecial 37, 3)), (75, (.putfield 44, 3)), (78, (.aload_n 0, 1)), (79, (.new 35, 3))] := DL.of (by decide +kernel)
set_option maxRecDepth 20000 in
theorem dlX7_init_1 : DL cX7_init [(82, (.dup, 1)), (83, (.bipush 8, 2)), (85, (.invokespecial 37, 3)), (88, (.putfield 47, 3)), (91, (.aload_n 0, 1)), (92, (.bipush 6, 2)), (94, (.newarray .int, 2)), (96, (.putfield 50, 3)), (99, (.aload_n 0, 1)), (100, (.aconst_null, 1)), (101, (.putfield 53, 3)), (104, (.return_, 1))] := DL.of (by decide +kernel)
set_option maxRecDepth 20000 in
theorem dlX7_copyFrom_0 : DL cX7_copyFrom [(0, (.aload_n 0, 1)), (1, (.aload_n 1, 1)), (2, (.getfield 11, 3)), (5, (.putfield 11, 3)), (8, (.aload_n 1, 1)), (9, (.getfield 15, 3)), (12, (.iconst 0, 1)), (13, (.aload_n 0, 1)), (14, (.getfield 15, 3)), (17, (.iconst 0, 1)), (18, (.bipush 6, 2)), (20, (.invokestatic 57, 3)), (23, (.aload_n 1, 1)), (24, (.getfield 19, 3)), (27, (.iconst 0, 1)), (28, (.aload_n 0, 1)), (29, (.getfield 19, 3)), (32, (.iconst 0, 1)), (33, (.bipush 6, 2)), (35, (.invokestatic 57, 3)), (38, (.aload_n 1, 1)), (39, (.getfield 22, 3)), (42, (.iconst 0, 1)), (43, (.aload_n 0, 1)), (44, (.getfield 22, 3)), (47, (.iconst 0, 1)), (48, (.aload_n 0, 1)), (49, (.getfield 22, 3)), (52, (.arraylength, 1)), (53, (.invokestatic 57, 3)), (56, (.aload_n 1, 1)), (57, (.getfield 25, 3)), (60, (.iconst 0, 1)), (61, (.aload_n 0, 1)), (62, (.getfield 25, 3)), (65, (.iconst 0, 1)), (66, (.aload_n 0, 1)), (67, (.getfield 25, 3)), (70, (.arraylength, 1)), (71, (.invokestatic 57, 3))] := DL.of (by decide +kernel)
set_option maxRecDepth 20000 in
theorem dlX7_copyFrom_1 : DL cX7_copyFrom [(74, (.aload_n 0, 1)), (75, (.getfield 31, 3)), (78, (.aload_n 1, 1)), (79, (.getfield 31, 3)), (82, (.invokevirtual 63, 3)), (85, (.aload_n 0, 1)), (86, (.getfield 40, 3)), (89, (.aload_n 1, 1)), (90, (.getfield 40, 3)), (93, (.invokevirtual 67, 3)), (96, (.aload_n 0, 1)), (97, (.getfield 44, 3)), (100, (.aload_n 1, 1)), (101, (.getfield 44, 3)), (104, (.invokevirtual 67, 3)), (107, (.aload_n 0, 1)), (108, (.getfield 47, 3)), (111, (.aload_n 1, 1)), (112, (.getfield 47, 3)), (115, (.invokevirtual 67, 3)), (118, (.aload_n 0, 1)), (119, (.aload_n 1, 1)), (120, (.getfield 53, 3)), (123, (.putfield 53, 3)), (126, (.return_, 1))] := DL.of (by decide +kernel)
set_option maxRecDepth 20000 in
theorem dlX7_enter_0 : DL cX7_enter [(0, (.aload_n 0, 1)), (1, (.getfield 11, 3)), (4, (.istore 4, 2)), (6, (.aload_n 0, 1)), (7, (.dup, 1)), (8, (.getfield 11, 3)), (11, (.iconst 1, 1)), (12, (.iadd, 1)), (13, (.putfield 11, 3)), (16, (.aload_n 0, 1)), (17, (.getfield 15, 3)), (20, (.iload 4, 2)), (22, (.iload_n 1, 1)), (23, (.iastore, 1)), (24, (.aload_n 0, 1)), (25, (.getfield 19, 3)), (28, (.iload 4, 2)), (30, (.iload_n 2, 1)), (31, (.iastore, 1)), (32, (.aload_n 0, 1)), (33, (.getfield 31, 3)), (36, (.getfield 70, 3)), (39, (.iload 4, 2)), (41, (.aload_n 0, 1)), (42, (.getfield 31, 3)), (45, (.getfield 73, 3)), (48, (.iload_n 3, 1)), (49, (.isub, 1)), (50, (.iastore, 1)), (51, (.aload_n 0, 1)), (52, (.getfield 31, 3)), (55, (.getfield 76, 3)), (58, (.iload 4, 2)), (60, (.iconst 0, 1)), (61, (.bastore, 1)), (62, (.iconst 0, 1)), (63, (.istore 5, 2)), (65, (.iload 5, 2)), (67, (.iconst 4, 1)), (68, (.if_icmp .ge 22, 3))] := DL.of (by decide +kernel)
set_option maxRecDepth 20000 in
theorem dlX7_enter_1 : DL cX7_enter [(71, (.aload_n 0, 1)), (72, (.getfield 22, 3)), (75, (.iload 4, 2)), (77, (.iconst 4, 1)), (78, (.imul, 1)), (79, (.iload 5, 2)), (81, (.iadd, 1)), (82, (.iconst 0, 1)), (83, (.iastore, 1)), (84, (.iinc 5 1, 3)), (87, (.goto (-22), 3)), (90, (.aload_n 0, 1)), (91, (.iload 4, 2)), (93, (.invokevirtual 80, 3)), (96, (.iload 4, 2)), (98, (.ireturn, 1))] := DL.of (by decide +kernel)
set_option maxRecDepth 20000 in
theorem dlX7_hold_0 : DL cX7_hold [(0, (.aload_n 0, 1)), (1, (.aload_n 1, 1)), (2, (.putfield 53, 3)), (5, (.iconst 0, 1)), (6, (.istore_n 2, 1)), (7, (.iload_n 2, 1)), (8, (.aload_n 0, 1)), (9, (.getfield 11, 3)), (12, (.if_icmp .ge 14, 3)), (15, (.aload_n 0, 1)), (16, (.iload_n 2, 1)), (17, (.invokevirtual 80, 3)), (20, (.iinc 2 1, 3)), (23, (.goto (-16), 3)), (26, (.return_, 1))] := DL.of (by decide +kernel)
set_option maxRecDepth 20000 in
theorem dlX7_pace_0 : DL cX7_pace [(0, (.aload_n 0, 1)), (1, (.getfield 53, 3)), (4, (.ifnonnull 8, 3)), (7, (.bipush 10, 2)), (9, (.goto 10, 3)), (12, (.aload_n 0, 1)), (13, (.getfield 53, 3)), (16, (.getfield 85, 3)), (19, (.ireturn, 1))] := DL.of (by decide +kernel)
set_option maxRecDepth 20000 in
theorem dlX7_learn_0 : DL cX7_learn [(0, (.iload_n 1, 1)), (1, (.bipush 101, 2)), (3, (.imul, 1)), (4, (.istore_n 2, 1)), (5, (.aload_n 0, 1)), (6, (.getfield 50, 3)), (9, (.iconst 0, 1)), (10, (.iload_n 1, 1)), (11, (.iastore, 1)), (12, (.aload_n 0, 1)), (13, (.getfield 50, 3)), (16, (.iconst 1, 1)), (17, (.aload_n 0, 1)), (18, (.getfield 15, 3)), (21, (.iload_n 1, 1)), (22, (.iaload, 1)), (23, (.iastore, 1)), (24, (.aload_n 0, 1)), (25, (.getfield 50, 3)), (28, (.iconst 2, 1)), (29, (.aload_n 0, 1)), (30, (.getfield 19, 3)), (33, (.iload_n 1, 1)), (34, (.iaload, 1)), (35, (.iastore, 1)), (36, (.aload_n 0, 1)), (37, (.getfield 25, 3)), (40, (.iload_n 2, 1)), (41, (.iconst 0, 1)), (42, (.iastore, 1)), (43, (.iconst 0, 1)), (44, (.istore_n 3, 1)), (45, (.iload_n 3, 1)), (46, (.bipush 100, 2)), (48, (.if_icmp .ge 81, 3)), (51, (.aload_n 0, 1)), (52, (.getfield 50, 3)), (55, (.iconst 3, 1)), (56, (.iload_n 3, 1)), (57, (.bipush 10, 2))] := DL.of (by decide +kernel)
set_option maxRecDepth 20000 in
theorem dlX7_learn_1 : DL cX7_learn [(59, (.irem, 1)), (60, (.iastore, 1)), (61, (.aload_n 0, 1)), (62, (.getfield 50, 3)), (65, (.iconst 4, 1)), (66, (.iload_n 3, 1)), (67, (.bipush 10, 2)), (69, (.idiv, 1)), (70, (.iastore, 1)), (71, (.aload_n 0, 1)), (72, (.getfield 50, 3)), (75, (.iconst 5, 1)), (76, (.iload_n 3, 1)), (77, (.iastore, 1)), (78, (.aload_n 0, 1)), (79, (.getfield 53, 3)), (82, (.ifnonnull 7, 3)), (85, (.iconst 1, 1)), (86, (.goto 14, 3)), (89, (.aload_n 0, 1)), (90, (.getfield 53, 3)), (93, (.aload_n 0, 1)), (94, (.getfield 50, 3)), (97, (.invokevirtual 88, 3)), (100, (.istore 4, 2)), (102, (.aload_n 0, 1)), (103, (.getfield 25, 3)), (106, (.iload_n 2, 1)), (107, (.iload_n 3, 1)), (108, (.iadd, 1)), (109, (.iconst 1, 1)), (110, (.iadd, 1)), (111, (.aload_n 0, 1)), (112, (.getfield 25, 3)), (115, (.iload_n 2, 1)), (116, (.iload_n 3, 1)), (117, (.iadd, 1)), (118, (.iaload, 1)), (119, (.iload 4, 2)), (121, (.iadd, 1))] := DL.of (by decide +kernel)
set_option maxRecDepth 20000 in
theorem dlX7_learn_2 : DL cX7_learn [(122, (.iastore, 1)), (123, (.iinc 3 1, 3)), (126, (.goto (-81), 3)), (129, (.return_, 1))] := DL.of (by decide +kernel)
set_option maxRecDepth 20000 in
theorem dlX7_newsOf_0 : DL cX7_newsOf [(0, (.iload_n 1, 1)), (1, (.bipush 101, 2)), (3, (.imul, 1)), (4, (.iload_n 2, 1)), (5, (.bipush 100, 2)), (7, (.irem, 1)), (8, (.iadd, 1)), (9, (.istore_n 3, 1)), (10, (.aload_n 0, 1)), (11, (.getfield 25, 3)), (14, (.iload_n 3, 1)), (15, (.iconst 1, 1)), (16, (.iadd, 1)), (17, (.iaload, 1)), (18, (.aload_n 0, 1)), (19, (.getfield 25, 3)), (22, (.iload_n 3, 1)), (23, (.iaload, 1)), (24, (.isub, 1)), (25, (.ireturn, 1))] := DL.of (by decide +kernel)
set_option maxRecDepth 20000 in
theorem dlX7_newsAhead_0 : DL cX7_newsAhead [(0, (.iload_n 1, 1)), (1, (.bipush 101, 2)), (3, (.imul, 1)), (4, (.istore_n 3, 1)), (5, (.iload_n 2, 1)), (6, (.bipush 100, 2)), (8, (.idiv, 1)), (9, (.aload_n 0, 1)), (10, (.getfield 25, 3)), (13, (.iload_n 3, 1)), (14, (.bipush 100, 2)), (16, (.iadd, 1)), (17, (.iaload, 1)), (18, (.imul, 1)), (19, (.aload_n 0, 1)), (20, (.getfield 25, 3)), (23, (.iload_n 3, 1)), (24, (.iload_n 2, 1)), (25, (.bipush 100, 2)), (27, (.irem, 1)), (28, (.iadd, 1)), (29, (.iaload, 1)), (30, (.iadd, 1)), (31, (.ireturn, 1))] := DL.of (by decide +kernel)
set_option maxRecDepth 20000 in
theorem dlX7_leftOf_0 : DL cX7_leftOf [(0, (.aload_n 0, 1)), (1, (.iload_n 2, 1)), (2, (.aload_n 1, 1)), (3, (.getfield 73, 3)), (6, (.invokevirtual 92, 3)), (9, (.aload_n 0, 1)), (10, (.iload_n 2, 1)), (11, (.aload_n 1, 1)), (12, (.getfield 70, 3)), (15, (.iload_n 2, 1)), (16, (.iaload, 1)), (17, (.invokevirtual 92, 3)), (20, (.isub, 1)), (21, (.ireturn, 1))] := DL.of (by decide +kernel)
set_option maxRecDepth 20000 in
theorem dlX7_leftOfAll_0 : DL cX7_leftOfAll [(0, (.iconst 0, 1)), (1, (.istore_n 2, 1)), (2, (.iconst 0, 1)), (3, (.istore_n 3, 1)), (4, (.iload_n 3, 1)), (5, (.aload_n 0, 1)), (6, (.getfield 11, 3)), (9, (.if_icmp .ge 18, 3)), (12, (.iload_n 2, 1)), (13, (.aload_n 0, 1)), (14, (.aload_n 1, 1)), (15, (.iload_n 3, 1)), (16, (.invokevirtual 96, 3)), (19, (.iadd, 1)), (20, (.istore_n 2, 1)), (21, (.iinc 3 1, 3)), (24, (.goto (-20), 3)), (27, (.iload_n 2, 1)), (28, (.ireturn, 1))] := DL.of (by decide +kernel)
set_option maxRecDepth 20000 in
theorem dlX7_howManyUp_0 : DL cX7_howManyUp [(0, (.iconst 0, 1)), (1, (.istore_n 2, 1)), (2, (.iconst 0, 1)), (3, (.istore_n 3, 1)), (4, (.iload_n 3, 1)), (5, (.aload_n 0, 1)), (6, (.getfield 11, 3)), (9, (.if_icmp .ge 20, 3)), (12, (.aload_n 1, 1)), (13, (.iload_n 3, 1)), (14, (.invokevirtual 100, 3)), (17, (.ifCond .eq 6, 3)), (20, (.iinc 2 1, 3)), (23, (.iinc 3 1, 3)), (26, (.goto (-22), 3)), (29, (.iload_n 2, 1)), (30, (.ireturn, 1))] := DL.of (by decide +kernel)
set_option maxRecDepth 20000 in
theorem dlX7_holds_0 : DL cX7_holds [(0, (.aload_n 0, 1)), (1, (.invokevirtual 104, 3)), (4, (.istore_n 3, 1)), (5, (.aload_n 0, 1)), (6, (.getfield 15, 3)), (9, (.iload_n 1, 1)), (10, (.iaload, 1)), (11, (.tableswitch 81 1 6 #[37, 81, 41, 49, 81, 60], 37)), (48, (.iload_n 3, 1)), (49, (.iconst 2, 1)), (50, (.imul, 1)), (51, (.ireturn, 1)), (52, (.iconst 1, 1)), (53, (.iload_n 3, 1)), (54, (.iconst 2, 1)), (55, (.idiv, 1)), (56, (.invokestatic 107, 3)), (59, (.ireturn, 1)), (60, (.iload_n 3, 1)), (61, (.iconst 2, 1)), (62, (.imul, 1)), (63, (.aload_n 0, 1)), (64, (.getfield 19, 3)), (67, (.iload_n 1, 1)), (68, (.iaload, 1)), (69, (.iadd, 1)), (70, (.ireturn, 1)), (71, (.iconst 1, 1)), (72, (.iload_n 3, 1)), (73, (.iconst 2, 1)), (74, (.idiv, 1)), (75, (.invokestatic 107, 3)), (78, (.aload_n 0, 1)), (79, (.getfield 22, 3)), (82, (.iload_n 1, 1)), (83, (.iconst 4, 1)), (84, (.imul, 1)), (85, (.iload_n 2, 1)), (86, (.iconst 4, 1)), (87, (.irem, 1))] := DL.of (by decide +kernel)
set_option maxRecDepth 20000 in
theorem dlX7_holds_1 : DL cX7_holds [(88, (.iadd, 1)), (89, (.iaload, 1)), (90, (.iadd, 1)), (91, (.ireturn, 1)), (92, (.iload_n 3, 1)), (93, (.ireturn, 1))] := DL.of (by decide +kernel)
set_option maxRecDepth 20000 in
theorem dlX7_minds_0 : DL cX7_minds [(0, (.aload_n 0, 1)), (1, (.getfield 15, 3)), (4, (.iload_n 1, 1)), (5, (.iaload, 1)), (6, (.istore_n 3, 1)), (7, (.iload_n 3, 1)), (8, (.iconst 2, 1)), (9, (.if_icmp .eq 10, 3)), (12, (.iload_n 3, 1)), (13, (.iconst 5, 1)), (14, (.if_icmp .eq 5, 3)), (17, (.iconst 0, 1)), (18, (.ireturn, 1)), (19, (.aload_n 0, 1)), (20, (.getfield 19, 3)), (23, (.iload_n 1, 1)), (24, (.iaload, 1)), (25, (.istore 4, 2)), (27, (.iload_n 3, 1)), (28, (.iconst 5, 1)), (29, (.if_icmp .ne 14, 3)), (32, (.iload_n 2, 1)), (33, (.iload 4, 2)), (35, (.iconst 2, 1)), (36, (.iadd, 1)), (37, (.irem, 1)), (38, (.ifCond .ne 5, 3)), (41, (.iconst 0, 1)), (42, (.ireturn, 1)), (43, (.aload_n 0, 1)), (44, (.iload_n 1, 1)), (45, (.iload_n 2, 1)), (46, (.invokevirtual 112, 3)), (49, (.iload 4, 2)), (51, (.iconst 3, 1)), (52, (.iadd, 1)), (53, (.if_icmp .le 7, 3)), (56, (.iconst 1, 1)), (57, (.goto 4, 3)), (60, (.iconst 0, 1))] := DL.of (by decide +kernel)
set_option maxRecDepth 20000 in
theorem dlX7_minds_1 : DL cX7_minds [(61, (.ireturn, 1))] := DL.of (by decide +kernel)
set_option maxRecDepth 20000 in
theorem dlX7_evening_0 : DL cX7_evening [(0, (.aload_n 0, 1)), (1, (.iload_n 2, 1)), (2, (.aload_n 1, 1)), (3, (.getfield 73, 3)), (6, (.invokevirtual 115, 3)), (9, (.istore_n 3, 1)), (10, (.iconst 0, 1)), (11, (.istore 4, 2)), (13, (.iload 4, 2)), (15, (.bipush 30, 2)), (17, (.if_icmp .ge 94, 3)), (20, (.aload_n 1, 1)), (21, (.getfield 70, 3)), (24, (.iload_n 2, 1)), (25, (.iaload, 1)), (26, (.aload_n 1, 1)), (27, (.getfield 73, 3)), (30, (.if_icmp .ge 81, 3)), (33, (.aload_n 1, 1)), (34, (.getfield 76, 3)), (37, (.iload_n 2, 1)), (38, (.baload, 1)), (39, (.ifCond .ne 72, 3)), (42, (.aload_n 1, 1)), (43, (.getfield 70, 3)), (46, (.iload_n 2, 1)), (47, (.iaload, 1)), (48, (.istore 5, 2)), (50, (.aload_n 0, 1)), (51, (.iload_n 2, 1)), (52, (.iload 5, 2)), (54, (.invokevirtual 112, 3)), (57, (.istore 6, 2)), (59, (.aload_n 0, 1)), (60, (.iload_n 2, 1)), (61, (.iload 5, 2)), (63, (.invokevirtual 118, 3)), (66, (.ifCond .eq 13, 3)), (69, (.aload_n 1, 1)), (70, (.getfield 76, 3))] := DL.of (by decide +kernel)
set_option maxRecDepth 20000 in
theorem dlX7_evening_1 : DL cX7_evening [(73, (.iload_n 2, 1)), (74, (.iconst 1, 1)), (75, (.bastore, 1)), (76, (.goto 32, 3)), (79, (.iload 4, 2)), (81, (.ifCond .eq 9, 3)), (84, (.iload 6, 2)), (86, (.iload_n 3, 1)), (87, (.if_icmp .gt 24, 3)), (90, (.iload_n 3, 1)), (91, (.iload 6, 2)), (93, (.isub, 1)), (94, (.istore_n 3, 1)), (95, (.aload_n 1, 1)), (96, (.getfield 70, 3)), (99, (.iload_n 2, 1)), (100, (.dup2, 1)), (101, (.iaload, 1)), (102, (.iconst 1, 1)), (103, (.iadd, 1)), (104, (.iastore, 1)), (105, (.iinc 4 1, 3)), (108, (.goto (-95), 3)), (111, (.aload_n 0, 1)), (112, (.aload_n 1, 1)), (113, (.invokevirtual 122, 3)), (116, (.iload 4, 2)), (118, (.ireturn, 1))] := DL.of (by decide +kernel)
set_option maxRecDepth 20000 in
theorem dlX7_night_0 : DL cX7_night [(0, (.iconst 0, 1)), (1, (.istore_n 2, 1)), (2, (.iload_n 2, 1)), (3, (.aload_n 0, 1)), (4, (.getfield 11, 3)), (7, (.if_icmp .ge 27, 3)), (10, (.aload_n 1, 1)), (11, (.iload_n 2, 1)), (12, (.invokevirtual 100, 3)), (15, (.ifCond .eq 13, 3)), (18, (.aload_n 1, 1)), (19, (.getfield 70, 3)), (22, (.iload_n 2, 1)), (23, (.dup2, 1)), (24, (.iaload, 1)), (25, (.iconst 1, 1)), (26, (.iadd, 1)), (27, (.iastore, 1)), (28, (.iinc 2 1, 3)), (31, (.goto (-29), 3)), (34, (.aload_n 1, 1)), (35, (.dup, 1)), (36, (.getfield 73, 3)), (39, (.iconst 1, 1)), (40, (.iadd, 1)), (41, (.putfield 73, 3)), (44, (.return_, 1))] := DL.of (by decide +kernel)
set_option maxRecDepth 20000 in
theorem dlX8_init_0 : DL cX8_init [(0, (.aload_n 0, 1)), (1, (.invokespecial 1, 3)), (4, (.aload_n 0, 1)), (5, (.iconst (-1), 1)), (6, (.putfield 9, 3)), (9, (.aload_n 0, 1)), (10, (.iconst 0, 1)), (11, (.putfield 13, 3)), (14, (.aload_n 0, 1)), (15, (.bipush 60, 2)), (17, (.newarray .long, 2)), (19, (.putfield 16, 3)), (22, (.return_, 1))] := DL.of (by decide +kernel)
set_option maxRecDepth 20000 in
theorem dlX8_become_0 : DL cX8_become [(0, (.aload_n 0, 1)), (1, (.iload_n 1, 1)), (2, (.putfield 9, 3)), (5, (.aload_n 0, 1)), (6, (.iload_n 2, 1)), (7, (.putfield 13, 3)), (10, (.aload_n 0, 1)), (11, (.getfield 16, 3)), (14, (.lconst 0, 1)), (15, (.invokestatic 20, 3)), (18, (.return_, 1))] := DL.of (by decide +kernel)
set_option maxRecDepth 20000 in
theorem dlX8_has_0 : DL cX8_has [(0, (.iload_n 1, 1)), (1, (.ifCond .lt 15, 3)), (4, (.iload_n 1, 1)), (5, (.aload_n 0, 1)), (6, (.getfield 13, 3)), (9, (.if_icmp .ge 7, 3)), (12, (.iconst 1, 1)), (13, (.goto 4, 3)), (16, (.iconst 0, 1)), (17, (.ireturn, 1))] := DL.of (by decide +kernel)
set_option maxRecDepth 20000 in
theorem dlX8_hasRun_0 : DL cX8_hasRun [(0, (.iload_n 1, 1)), (1, (.ifCond .lt 29, 3)), (4, (.iload_n 2, 1)), (5, (.ifCond .lt 25, 3)), (8, (.iload_n 2, 1)), (9, (.aload_n 0, 1)), (10, (.getfield 13, 3)), (13, (.if_icmp .gt 17, 3)), (16, (.iload_n 1, 1)), (17, (.aload_n 0, 1)), (18, (.getfield 13, 3)), (21, (.iload_n 2, 1)), (22, (.isub, 1)), (23, (.if_icmp .gt 7, 3)), (26, (.iconst 1, 1)), (27, (.goto 4, 3)), (30, (.iconst 0, 1)), (31, (.ireturn, 1))] := DL.of (by decide +kernel)
set_option maxRecDepth 20000 in
theorem dlX8_cut_0 : DL cX8_cut [(0, (.aload_n 0, 1)), (1, (.getfield 9, 3)), (4, (.tableswitch 62 0 4 #[36, 41, 46, 62, 50], 36)), (40, (.lload_n 1, 1)), (41, (.l2i, 1)), (42, (.i2b, 1)), (43, (.i2l, 1)), (44, (.lreturn, 1)), (45, (.lload_n 1, 1)), (46, (.l2i, 1)), (47, (.i2s, 1)), (48, (.i2l, 1)), (49, (.lreturn, 1)), (50, (.lload_n 1, 1)), (51, (.l2i, 1)), (52, (.i2l, 1)), (53, (.lreturn, 1)), (54, (.lload_n 1, 1)), (55, (.lconst 0, 1)), (56, (.lcmp, 1)), (57, (.ifCond .eq 7, 3)), (60, (.lconst 1, 1)), (61, (.goto 4, 3)), (64, (.lconst 0, 1)), (65, (.lreturn, 1)), (66, (.lload_n 1, 1)), (67, (.lreturn, 1))] := DL.of (by decide +kernel)
set_option maxRecDepth 20000 in
theorem dlX9_init_0 : DL cX9_init [(0, (.aload_n 0, 1)), (1, (.invokespecial 3, 3)), (4, (.aload_n 0, 1)), (5, (.new 9, 3)), (8, (.dup, 1)), (9, (.invokespecial 11, 3)), (12, (.putfield 12, 3)), (15, (.aload_n 0, 1)), (16, (.new 9, 3)), (19, (.dup, 1)), (20, (.invokespecial 11, 3)), (23, (.putfield 18, 3)), (26, (.aload_n 0, 1)), (27, (.iconst 0, 1)), (28, (.putfield 21, 3)), (31, (.aload_n 0, 1)), (32, (.new 25, 3)), (35, (.dup, 1)), (36, (.invokespecial 27, 3)), (39, (.putfield 28, 3)), (42, (.aload_n 0, 1)), (43, (.bipush 6, 2)), (45, (.anewarray 32, 3)), (48, (.putfield 34, 3)), (51, (.aload_n 0, 1)), (52, (.iconst 0, 1)), (53, (.putfield 38, 3)), (56, (.aload_n 0, 1)), (57, (.new 42, 3)), (60, (.dup, 1)), (61, (.aload_n 0, 1)), (62, (.getfield 12, 3)), (65, (.invokespecial 44, 3)), (68, (.putfield 47, 3)), (71, (.aload_n 0, 1)), (72, (.new 51, 3)), (75, (.dup, 1)), (76, (.aload_n 0, 1)), (77, (.getfield 12, 3)), (80, (.invokespecial 53, 3))] := DL.of (by decide +kernel)
set_option maxRecDepth 20000 in
theorem dlX9_init_1 : DL cX9_init [(83, (.putfield 54, 3)), (86, (.aload_n 0, 1)), (87, (.new 58, 3)), (90, (.dup, 1)), (91, (.invokespecial 60, 3)), (94, (.putfield 61, 3)), (97, (.aload_n 0, 1)), (98, (.bipush 6, 2)), (100, (.anewarray 65, 3)), (103, (.putfield 67, 3)), (106, (.iconst 0, 1)), (107, (.istore_n 1, 1)), (108, (.iload_n 1, 1)), (109, (.bipush 6, 2)), (111, (.if_icmp .ge 22, 3)), (114, (.aload_n 0, 1)), (115, (.getfield 34, 3)), (118, (.iload_n 1, 1)), (119, (.new 32, 3)), (122, (.dup, 1)), (123, (.invokespecial 71, 3)), (126, (.aastore, 1)), (127, (.iinc 1 1, 3)), (130, (.goto (-22), 3)), (133, (.iconst 0, 1)), (134, (.istore_n 1, 1)), (135, (.iload_n 1, 1)), (136, (.bipush 6, 2)), (138, (.if_icmp .ge 22, 3)), (141, (.aload_n 0, 1)), (142, (.getfield 67, 3)), (145, (.iload_n 1, 1)), (146, (.new 65, 3)), (149, (.dup, 1)), (150, (.invokespecial 72, 3)), (153, (.aastore, 1)), (154, (.iinc 1 1, 3)), (157, (.goto (-22), 3)), (160, (.return_, 1))] := DL.of (by decide +kernel)
set_option maxRecDepth 20000 in
theorem dlX9_clock_0 : DL cX9_clock [(0, (.iload_n 1, 1)), (1, (.iconst 0, 1)), (2, (.bipush 6, 2)), (4, (.invokestatic 73, 3)), (7, (.ifCond .ne 5, 3)), (10, (.iconst (-1), 1)), (11, (.ireturn, 1)), (12, (.iload_n 2, 1)), (13, (.iconst 0, 1)), (14, (.bipush 9, 2)), (16, (.invokestatic 73, 3)), (19, (.ifCond .eq 21, 3)), (22, (.iload_n 3, 1)), (23, (.iconst 0, 1)), (24, (.aload_n 0, 1)), (25, (.getfield 12, 3)), (28, (.getfield 77, 3)), (31, (.getfield 81, 3)), (34, (.invokestatic 73, 3)), (37, (.ifCond .ne 6, 3)), (40, (.bipush (-2), 2)), (42, (.ireturn, 1)), (43, (.aload_n 0, 1)), (44, (.getfield 12, 3)), (47, (.getfield 86, 3)), (50, (.bipush 6, 2)), (52, (.if_icmp .lt 6, 3)), (55, (.bipush (-4), 2)), (57, (.ireturn, 1)), (58, (.aload_n 0, 1)), (59, (.getfield 12, 3)), (62, (.iload_n 1, 1)), (63, (.iload_n 2, 1)), (64, (.iload_n 3, 1)), (65, (.invokevirtual 89, 3)), (68, (.ireturn, 1))] := DL.of (by decide +kernel)
set_option maxRecDepth 20000 in
theorem dlX9_of_0 : DL cX9_of [(0, (.aload_n 0, 1)), (1, (.iload_n 1, 1)), (2, (.invokevirtual 93, 3)), (5, (.ifCond .ne 5, 3)), (8, (.iconst (-1), 1)), (9, (.ireturn, 1)), (10, (.iload_n 2, 1)), (11, (.tableswitch 152 0 7 #[45, 55, 65, 78, 99, 115, 134, 143], 45)), (56, (.aload_n 0, 1)), (57, (.getfield 12, 3)), (60, (.getfield 97, 3)), (63, (.iload_n 1, 1)), (64, (.iaload, 1)), (65, (.ireturn, 1)), (66, (.aload_n 0, 1)), (67, (.getfield 12, 3)), (70, (.getfield 101, 3)), (73, (.iload_n 1, 1)), (74, (.iaload, 1)), (75, (.ireturn, 1)), (76, (.aload_n 0, 1)), (77, (.getfield 12, 3)), (80, (.getfield 77, 3)), (83, (.getfield 104, 3)), (86, (.iload_n 1, 1)), (87, (.iaload, 1)), (88, (.ireturn, 1)), (89, (.aload_n 0, 1)), (90, (.getfield 12, 3)), (93, (.getfield 77, 3)), (96, (.getfield 107, 3)), (99, (.iload_n 1, 1)), (100, (.baload, 1)), (101, (.ifCond .eq 7, 3)), (104, (.iconst 1, 1)), (105, (.goto 4, 3)), (108, (.iconst 0, 1)), (109, (.ireturn, 1)), (110, (.aload_n 0, 1)), (111, (.getfield 12, 3))] := DL.of (by decide +kernel)
set_option maxRecDepth 20000 in
theorem dlX9_of_1 : DL cX9_of [(114, (.aload_n 0, 1)), (115, (.getfield 12, 3)), (118, (.getfield 77, 3)), (121, (.iload_n 1, 1)), (122, (.invokevirtual 111, 3)), (125, (.ireturn, 1)), (126, (.aload_n 0, 1)), (127, (.getfield 12, 3)), (130, (.iload_n 1, 1)), (131, (.aload_n 0, 1)), (132, (.getfield 12, 3)), (135, (.getfield 77, 3)), (138, (.getfield 81, 3)), (141, (.invokevirtual 115, 3)), (144, (.ireturn, 1)), (145, (.aload_n 0, 1)), (146, (.getfield 47, 3)), (149, (.iload_n 1, 1)), (150, (.invokevirtual 119, 3)), (153, (.ireturn, 1)), (154, (.aload_n 0, 1)), (155, (.getfield 47, 3)), (158, (.iload_n 1, 1)), (159, (.invokevirtual 123, 3)), (162, (.ireturn, 1)), (163, (.iconst (-1), 1)), (164, (.ireturn, 1))] := DL.of (by decide +kernel)
set_option maxRecDepth 20000 in
theorem dlX9_news_0 : DL cX9_news [(0, (.aload_n 0, 1)), (1, (.iload_n 1, 1)), (2, (.invokevirtual 93, 3)), (5, (.ifCond .ne 5, 3)), (8, (.iconst (-1), 1)), (9, (.ireturn, 1)), (10, (.iload_n 2, 1)), (11, (.iconst 0, 1)), (12, (.sipush 9999, 3)), (15, (.invokestatic 73, 3)), (18, (.ifCond .eq 15, 3)), (21, (.aload_n 0, 1)), (22, (.getfield 12, 3)), (25, (.iload_n 1, 1)), (26, (.iload_n 2, 1)), (27, (.invokevirtual 126, 3)), (30, (.goto 5, 3)), (33, (.bipush (-2), 2)), (35, (.ireturn, 1))] := DL.of (by decide +kernel)
set_option maxRecDepth 20000 in
theorem dlX9_set_0 : DL cX9_set [(0, (.aload_n 0, 1)), (1, (.iload_n 1, 1)), (2, (.invokevirtual 93, 3)), (5, (.ifCond .ne 5, 3)), (8, (.iconst (-1), 1)), (9, (.ireturn, 1)), (10, (.iload_n 2, 1)), (11, (.iconst 0, 1)), (12, (.aload_n 0, 1)), (13, (.getfield 12, 3)), (16, (.getfield 77, 3)), (19, (.getfield 81, 3)), (22, (.invokestatic 73, 3)), (25, (.ifCond .ne 6, 3)), (28, (.bipush (-2), 2)), (30, (.ireturn, 1)), (31, (.aload_n 0, 1)), (32, (.getfield 12, 3)), (35, (.getfield 77, 3)), (38, (.getfield 104, 3)), (41, (.iload_n 1, 1)), (42, (.iaload, 1)), (43, (.istore_n 3, 1)), (44, (.aload_n 0, 1)), (45, (.getfield 12, 3)), (48, (.getfield 77, 3)), (51, (.getfield 104, 3)), (54, (.iload_n 1, 1)), (55, (.iload_n 2, 1)), (56, (.iastore, 1)), (57, (.iload_n 3, 1)), (58, (.ireturn, 1))] := DL.of (by decide +kernel)
set_option maxRecDepth 20000 in
theorem dlX9_balk_0 : DL cX9_balk [(0, (.aload_n 0, 1)), (1, (.iload_n 1, 1)), (2, (.invokevirtual 93, 3)), (5, (.ifCond .ne 5, 3)), (8, (.iconst (-1), 1)), (9, (.ireturn, 1)), (10, (.aload_n 0, 1)), (11, (.getfield 12, 3)), (14, (.getfield 77, 3)), (17, (.getfield 107, 3)), (20, (.iload_n 1, 1)), (21, (.baload, 1)), (22, (.ifCond .eq 7, 3)), (25, (.iconst 1, 1)), (26, (.goto 4, 3)), (29, (.iconst 0, 1)), (30, (.istore_n 3, 1)), (31, (.aload_n 0, 1)), (32, (.getfield 12, 3)), (35, (.getfield 77, 3)), (38, (.getfield 107, 3)), (41, (.iload_n 1, 1)), (42, (.iload_n 2, 1)), (43, (.bastore, 1)), (44, (.iload_n 3, 1)), (45, (.ireturn, 1))] := DL.of (by decide +kernel)
set_option maxRecDepth 20000 in
theorem dlX9_row_0 : DL cX9_row [(0, (.aload_n 0, 1)), (1, (.iload_n 1, 1)), (2, (.invokevirtual 93, 3)), (5, (.ifCond .eq 12, 3)), (8, (.iload_n 2, 1)), (9, (.iconst 0, 1)), (10, (.iconst 3, 1)), (11, (.invokestatic 73, 3)), (14, (.ifCond .ne 5, 3)), (17, (.iconst (-1), 1)), (18, (.ireturn, 1)), (19, (.iload_n 3, 1)), (20, (.iconst 0, 1)), (21, (.bipush 9, 2)), (23, (.invokestatic 73, 3)), (26, (.ifCond .ne 6, 3)), (29, (.bipush (-2), 2)), (31, (.ireturn, 1)), (32, (.aload_n 0, 1)), (33, (.getfield 12, 3)), (36, (.getfield 97, 3)), (39, (.iload_n 1, 1)), (40, (.iaload, 1)), (41, (.bipush 6, 2)), (43, (.if_icmp .eq 6, 3)), (46, (.bipush (-3), 2)), (48, (.ireturn, 1)), (49, (.aload_n 0, 1)), (50, (.getfield 12, 3)), (53, (.getfield 129, 3)), (56, (.iload_n 1, 1)), (57, (.iconst 4, 1)), (58, (.imul, 1)), (59, (.iload_n 2, 1)), (60, (.iadd, 1)), (61, (.iaload, 1)), (62, (.istore 4, 2)), (64, (.aload_n 0, 1)), (65, (.getfield 12, 3)), (68, (.getfield 129, 3))] := DL.of (by decide +kernel)
set_option maxRecDepth 20000 in
theorem dlX9_row_1 : DL cX9_row [(71, (.iload_n 1, 1)), (72, (.iconst 4, 1)), (73, (.imul, 1)), (74, (.iload_n 2, 1)), (75, (.iadd, 1)), (76, (.iload_n 3, 1)), (77, (.iastore, 1)), (78, (.iload 4, 2)), (80, (.ireturn, 1))] := DL.of (by decide +kernel)
set_option maxRecDepth 20000 in
theorem dlX9_feed_0 : DL cX9_feed [(0, (.iload_n 1, 1)), (1, (.iconst 0, 1)), (2, (.bipush 127, 2)), (4, (.invokestatic 73, 3)), (7, (.ifCond .ne 6, 3)), (10, (.bipush (-2), 2)), (12, (.ireturn, 1)), (13, (.aload_n 0, 1)), (14, (.getfield 28, 3)), (17, (.iload_n 1, 1)), (18, (.i2b, 1)), (19, (.invokevirtual 132, 3)), (22, (.ifCond .eq 13, 3)), (25, (.aload_n 0, 1)), (26, (.getfield 28, 3)), (29, (.getfield 136, 3)), (32, (.goto 5, 3)), (35, (.bipush (-4), 2)), (37, (.ireturn, 1))] := DL.of (by decide +kernel)
set_option maxRecDepth 20000 in
theorem dlX9_bench_0 : DL cX9_bench [(0, (.aload_n 0, 1)), (1, (.getfield 38, 3)), (4, (.bipush 6, 2)), (6, (.if_icmp .lt 6, 3)), (9, (.bipush (-4), 2)), (11, (.ireturn, 1)), (12, (.aload_n 0, 1)), (13, (.getfield 34, 3)), (16, (.aload_n 0, 1)), (17, (.getfield 38, 3)), (20, (.aaload, 1)), (21, (.astore_n 1, 1)), (22, (.aload_n 0, 1)), (23, (.getfield 28, 3)), (26, (.aload_n 1, 1)), (27, (.invokevirtual 139, 3)), (30, (.istore_n 2, 1)), (31, (.aload_n 0, 1)), (32, (.getfield 28, 3)), (35, (.iconst 0, 1)), (36, (.putfield 136, 3)), (39, (.iload_n 2, 1)), (40, (.ifCond .ne 14, 3)), (43, (.bipush (-10), 2)), (45, (.aload_n 0, 1)), (46, (.getfield 28, 3)), (49, (.getfield 143, 3)), (52, (.isub, 1)), (53, (.ireturn, 1)), (54, (.aload_n 0, 1)), (55, (.getfield 12, 3)), (58, (.aload_n 1, 1)), (59, (.invokevirtual 146, 3)), (62, (.aload_n 0, 1)), (63, (.dup, 1)), (64, (.getfield 38, 3)), (67, (.iconst 1, 1)), (68, (.iadd, 1)), (69, (.putfield 38, 3)), (72, (.aload_n 0, 1))] := DL.of (by decide +kernel)
set_option maxRecDepth 20000 in
theorem dlX9_bench_1 : DL cX9_bench [(73, (.getfield 38, 3)), (76, (.iconst 1, 1)), (77, (.isub, 1)), (78, (.ireturn, 1))] := DL.of (by decide +kernel)
set_option maxRecDepth 20000 in
theorem dlX9_told_0 : DL cX9_told [(0, (.iload_n 1, 1)), (1, (.tableswitch 80 0 3 #[31, 42, 50, 65], 31)), (32, (.aload_n 0, 1)), (33, (.getfield 12, 3)), (36, (.getfield 77, 3)), (39, (.getfield 81, 3)), (42, (.ireturn, 1)), (43, (.aload_n 0, 1)), (44, (.getfield 12, 3)), (47, (.invokevirtual 150, 3)), (50, (.ireturn, 1)), (51, (.aload_n 0, 1)), (52, (.getfield 12, 3)), (55, (.aload_n 0, 1)), (56, (.getfield 12, 3)), (59, (.getfield 77, 3)), (62, (.invokevirtual 154, 3)), (65, (.ireturn, 1)), (66, (.aload_n 0, 1)), (67, (.getfield 12, 3)), (70, (.aload_n 0, 1)), (71, (.getfield 12, 3)), (74, (.getfield 77, 3)), (77, (.invokevirtual 158, 3)), (80, (.ireturn, 1)), (81, (.iconst (-1), 1)), (82, (.ireturn, 1))] := DL.of (by decide +kernel)
set_option maxRecDepth 20000 in
theorem dlX9_tell_0 : DL cX9_tell [(0, (.aload_n 0, 1)), (1, (.iload_n 1, 1)), (2, (.invokevirtual 93, 3)), (5, (.ifCond .ne 5, 3)), (8, (.iconst (-1), 1)), (9, (.ireturn, 1)), (10, (.aload_n 0, 1)), (11, (.getfield 12, 3)), (14, (.getfield 77, 3)), (17, (.getfield 81, 3)), (20, (.sipush 9999, 3)), (23, (.if_icmp .lt 6, 3)), (26, (.bipush (-3), 2)), (28, (.ireturn, 1)), (29, (.aload_n 0, 1)), (30, (.getfield 12, 3)), (33, (.aload_n 0, 1)), (34, (.getfield 12, 3)), (37, (.getfield 77, 3)), (40, (.iload_n 1, 1)), (41, (.invokevirtual 161, 3)), (44, (.ireturn, 1))] := DL.of (by decide +kernel)
set_option maxRecDepth 20000 in
theorem dlX9_pass_0 : DL cX9_pass [(0, (.iload_n 1, 1)), (1, (.iconst 0, 1)), (2, (.bipush 60, 2)), (4, (.invokestatic 73, 3)), (7, (.ifCond .ne 6, 3)), (10, (.bipush (-2), 2)), (12, (.ireturn, 1)), (13, (.aload_n 0, 1)), (14, (.getfield 12, 3)), (17, (.getfield 77, 3)), (20, (.getfield 81, 3)), (23, (.iload_n 1, 1)), (24, (.iadd, 1)), (25, (.sipush 9999, 3)), (28, (.if_icmp .le 6, 3)), (31, (.bipush (-3), 2)), (33, (.ireturn, 1)), (34, (.iconst 0, 1)), (35, (.istore_n 2, 1)), (36, (.iload_n 2, 1)), (37, (.iload_n 1, 1)), (38, (.if_icmp .ge 23, 3)), (41, (.aload_n 0, 1)), (42, (.getfield 12, 3)), (45, (.aload_n 0, 1)), (46, (.getfield 12, 3)), (49, (.getfield 77, 3)), (52, (.invokevirtual 164, 3)), (55, (.iinc 2 1, 3)), (58, (.goto (-22), 3)), (61, (.aload_n 0, 1)), (62, (.getfield 12, 3)), (65, (.getfield 77, 3)), (68, (.getfield 81, 3)), (71, (.ireturn, 1))] := DL.of (by decide +kernel)
set_option maxRecDepth 20000 in
theorem dlX9_on_0 : DL cX9_on [(0, (.aload_n 0, 1)), (1, (.iload_n 1, 1)), (2, (.invokevirtual 93, 3)), (5, (.ifCond .eq 12, 3)), (8, (.iload_n 3, 1)), (9, (.iconst 0, 1)), (10, (.iconst 2, 1)), (11, (.invokestatic 73, 3)), (14, (.ifCond .ne 5, 3)), (17, (.iconst (-1), 1)), (18, (.ireturn, 1)), (19, (.iload_n 2, 1)), (20, (.iconst 0, 1)), (21, (.bipush 60, 2)), (23, (.invokestatic 73, 3)), (26, (.ifCond .eq 16, 3)), (29, (.aload_n 0, 1)), (30, (.getfield 47, 3)), (33, (.iload_n 1, 1)), (34, (.iload_n 2, 1)), (35, (.iload_n 3, 1)), (36, (.invokevirtual 168, 3)), (39, (.goto 5, 3)), (42, (.bipush (-2), 2)), (44, (.ireturn, 1))] := DL.of (by decide +kernel)
set_option maxRecDepth 20000 in
theorem dlX9_soonest_0 : DL cX9_soonest [(0, (.iload_n 1, 1)), (1, (.iconst (-1), 1)), (2, (.iconst 5, 1)), (3, (.invokestatic 73, 3)), (6, (.ifCond .ne 5, 3)), (9, (.iconst (-1), 1)), (10, (.ireturn, 1)), (11, (.iload_n 1, 1)), (12, (.aload_n 0, 1)), (13, (.getfield 12, 3)), (16, (.getfield 86, 3)), (19, (.if_icmp .lt 6, 3)), (22, (.bipush (-5), 2)), (24, (.ireturn, 1)), (25, (.aload_n 0, 1)), (26, (.getfield 54, 3)), (29, (.invokevirtual 171, 3)), (32, (.iload_n 1, 1)), (33, (.ifCond .ge 13, 3)), (36, (.aload_n 0, 1)), (37, (.getfield 54, 3)), (40, (.getfield 174, 3)), (43, (.goto 12, 3)), (46, (.aload_n 0, 1)), (47, (.getfield 54, 3)), (50, (.getfield 177, 3)), (53, (.iload_n 1, 1)), (54, (.iaload, 1)), (55, (.ireturn, 1))] := DL.of (by decide +kernel)
set_option maxRecDepth 20000 in
theorem dlX9_most_0 : DL cX9_most [(0, (.iload_n 2, 1)), (1, (.iconst (-1), 1)), (2, (.iconst 4, 1)), (3, (.invokestatic 73, 3)), (6, (.ifCond .ne 5, 3)), (9, (.iconst (-1), 1)), (10, (.ireturn, 1)), (11, (.iload_n 1, 1)), (12, (.iconst 1, 1)), (13, (.iconst 5, 1)), (14, (.invokestatic 73, 3)), (17, (.ifCond .ne 6, 3)), (20, (.bipush (-2), 2)), (22, (.ireturn, 1)), (23, (.iload_n 2, 1)), (24, (.iload_n 1, 1)), (25, (.if_icmp .ge 13, 3)), (28, (.aload_n 0, 1)), (29, (.getfield 12, 3)), (32, (.getfield 86, 3)), (35, (.ifCond .ne 6, 3)), (38, (.bipush (-5), 2)), (40, (.ireturn, 1)), (41, (.aload_n 0, 1)), (42, (.getfield 54, 3)), (45, (.iload_n 1, 1)), (46, (.invokevirtual 180, 3)), (49, (.iload_n 2, 1)), (50, (.ifCond .ge 13, 3)), (53, (.aload_n 0, 1)), (54, (.getfield 54, 3)), (57, (.getfield 174, 3)), (60, (.goto 12, 3)), (63, (.aload_n 0, 1)), (64, (.getfield 54, 3)), (67, (.getfield 177, 3)), (70, (.iload_n 2, 1)), (71, (.iaload, 1)), (72, (.ireturn, 1))] := DL.of (by decide +kernel)
set_option maxRecDepth 20000 in
theorem dlX9_next_0 : DL cX9_next [(0, (.aload_n 0, 1)), (1, (.getfield 47, 3)), (4, (.invokevirtual 184, 3)), (7, (.ireturn, 1))] := DL.of (by decide +kernel)
set_option maxRecDepth 20000 in
theorem dlX9_see_0 : DL cX9_see [(0, (.iload_n 1, 1)), (1, (.iconst (-1), 1)), (2, (.if_icmp .ne 14, 3)), (5, (.aload_n 0, 1)), (6, (.getfield 12, 3)), (9, (.getfield 187, 3)), (12, (.invokevirtual 191, 3)), (15, (.ireturn, 1)), (16, (.aload_n 0, 1)), (17, (.iload_n 1, 1)), (18, (.invokevirtual 93, 3)), (21, (.ifCond .ne 5, 3)), (24, (.iconst (-1), 1)), (25, (.ireturn, 1)), (26, (.iload_n 2, 1)), (27, (.iconst 0, 1)), (28, (.sipush 999, 3)), (31, (.invokestatic 73, 3)), (34, (.ifCond .eq 13, 3)), (37, (.iload_n 3, 1)), (38, (.iconst 0, 1)), (39, (.bipush 20, 2)), (41, (.invokestatic 73, 3)), (44, (.ifCond .ne 6, 3)), (47, (.bipush (-2), 2)), (49, (.ireturn, 1)), (50, (.aload_n 0, 1)), (51, (.getfield 12, 3)), (54, (.getfield 187, 3)), (57, (.iload_n 1, 1)), (58, (.iload_n 2, 1)), (59, (.iload_n 3, 1)), (60, (.invokevirtual 196, 3)), (63, (.ireturn, 1))] := DL.of (by decide +kernel)
set_option maxRecDepth 20000 in
theorem dlX9_since_0 : DL cX9_since [(0, (.aload_n 0, 1)), (1, (.iload_n 1, 1)), (2, (.invokevirtual 93, 3)), (5, (.ifCond .eq 12, 3)), (8, (.iload_n 2, 1)), (9, (.iconst 0, 1)), (10, (.iconst 1, 1)), (11, (.invokestatic 73, 3)), (14, (.ifCond .ne 5, 3)), (17, (.iconst (-1), 1)), (18, (.ireturn, 1)), (19, (.aload_n 0, 1)), (20, (.getfield 47, 3)), (23, (.iload_n 1, 1)), (24, (.invokevirtual 199, 3)), (27, (.iload_n 2, 1)), (28, (.ifCond .ne 13, 3)), (31, (.aload_n 0, 1)), (32, (.getfield 47, 3)), (35, (.getfield 202, 3)), (38, (.goto 10, 3)), (41, (.aload_n 0, 1)), (42, (.getfield 47, 3)), (45, (.getfield 205, 3)), (48, (.ireturn, 1))] := DL.of (by decide +kernel)
set_option maxRecDepth 20000 in
theorem dlX9_can_0 : DL cX9_can [(0, (.aload_n 0, 1)), (1, (.iload_n 1, 1)), (2, (.invokevirtual 93, 3)), (5, (.ifCond .eq 12, 3)), (8, (.iload_n 2, 1)), (9, (.iconst 0, 1)), (10, (.iconst 1, 1)), (11, (.invokestatic 73, 3)), (14, (.ifCond .ne 5, 3)), (17, (.iconst (-1), 1)), (18, (.ireturn, 1)), (19, (.aload_n 0, 1)), (20, (.getfield 47, 3)), (23, (.iload_n 1, 1)), (24, (.invokevirtual 208, 3)), (27, (.iload_n 2, 1)), (28, (.ifCond .ne 13, 3)), (31, (.aload_n 0, 1)), (32, (.getfield 47, 3)), (35, (.getfield 202, 3)), (38, (.goto 10, 3)), (41, (.aload_n 0, 1)), (42, (.getfield 47, 3)), (45, (.getfield 205, 3)), (48, (.ireturn, 1))] := DL.of (by decide +kernel)
set_option maxRecDepth 20000 in
theorem dlX9_odds_0 : DL cX9_odds [(0, (.iload_n 1, 1)), (1, (.iconst 0, 1)), (2, (.bipush 60, 2)), (4, (.invokestatic 73, 3)), (7, (.ifCond .ne 7, 3)), (10, (.ldc2_w 211, 3)), (13, (.lreturn, 1)), (14, (.aload_n 0, 1)), (15, (.getfield 47, 3)), (18, (.iload_n 1, 1)), (19, (.invokevirtual 213, 3)), (22, (.aload_n 0, 1)), (23, (.getfield 12, 3)), (26, (.getfield 86, 3)), (29, (.iload_n 2, 1)), (30, (.invokestatic 216, 3)), (33, (.lreturn, 1))] := DL.of (by decide +kernel)
set_option maxRecDepth 20000 in
theorem dlX9_mean_0 : DL cX9_mean [(0, (.aload_n 0, 1)), (1, (.getfield 12, 3)), (4, (.aload_n 0, 1)), (5, (.getfield 12, 3)), (8, (.getfield 77, 3)), (11, (.invokevirtual 158, 3)), (14, (.aload_n 0, 1)), (15, (.getfield 12, 3)), (18, (.getfield 86, 3)), (21, (.iload_n 1, 1)), (22, (.invokestatic 216, 3)), (25, (.lreturn, 1))] := DL.of (by decide +kernel)
set_option maxRecDepth 20000 in
theorem dlX9_month_0 : DL cX9_month [(0, (.iload_n 1, 1)), (1, (.iconst (-1), 1)), (2, (.if_icmp .ne 14, 3)), (5, (.aload_n 0, 1)), (6, (.getfield 12, 3)), (9, (.getfield 220, 3)), (12, (.invokevirtual 191, 3)), (15, (.ireturn, 1)), (16, (.aload_n 0, 1)), (17, (.iload_n 1, 1)), (18, (.invokevirtual 93, 3)), (21, (.ifCond .ne 11, 3)), (24, (.iload_n 1, 1)), (25, (.bipush 6, 2)), (27, (.if_icmp .eq 5, 3)), (30, (.iconst (-1), 1)), (31, (.ireturn, 1)), (32, (.aload_n 0, 1)), (33, (.getfield 12, 3)), (36, (.getfield 220, 3)), (39, (.iload_n 1, 1)), (40, (.iconst 0, 1)), (41, (.iconst 0, 1)), (42, (.invokevirtual 196, 3)), (45, (.ireturn, 1))] := DL.of (by decide +kernel)
set_option maxRecDepth 20000 in
theorem dlX9_ends_0 : DL cX9_ends [(0, (.iload_n 1, 1)), (1, (.iconst 0, 1)), (2, (.iconst 1, 1)), (3, (.invokestatic 73, 3)), (6, (.ifCond .ne 5, 3)), (9, (.iconst (-1), 1)), (10, (.ireturn, 1)), (11, (.aload_n 0, 1)), (12, (.getfield 47, 3)), (15, (.iload_n 1, 1)), (16, (.invokevirtual 223, 3)), (19, (.ireturn, 1))] := DL.of (by decide +kernel)
set_option maxRecDepth 20000 in
theorem dlX9_book_0 : DL cX9_book [(0, (.iload_n 1, 1)), (1, (.iconst (-1), 1)), (2, (.if_icmp .ne 14, 3)), (5, (.aload_n 0, 1)), (6, (.getfield 12, 3)), (9, (.getfield 226, 3)), (12, (.invokevirtual 191, 3)), (15, (.ireturn, 1)), (16, (.aload_n 0, 1)), (17, (.iload_n 1, 1)), (18, (.invokevirtual 93, 3)), (21, (.ifCond .ne 5, 3)), (24, (.iconst (-1), 1)), (25, (.ireturn, 1)), (26, (.iload_n 2, 1)), (27, (.iconst 0, 1)), (28, (.sipush 9999, 3)), (31, (.invokestatic 73, 3)), (34, (.ifCond .ne 6, 3)), (37, (.bipush (-2), 2)), (39, (.ireturn, 1)), (40, (.aload_n 0, 1)), (41, (.getfield 12, 3)), (44, (.getfield 226, 3)), (47, (.iload_n 1, 1)), (48, (.iload_n 2, 1)), (49, (.iconst 0, 1)), (50, (.invokevirtual 196, 3)), (53, (.ireturn, 1))] := DL.of (by decide +kernel)
set_option maxRecDepth 20000 in
theorem dlX9_looked_0 : DL cX9_looked [(0, (.iconst 0, 1)), (1, (.istore_n 1, 1)), (2, (.iload_n 1, 1)), (3, (.aload_n 0, 1)), (4, (.getfield 12, 3)), (7, (.getfield 226, 3)), (10, (.getfield 229, 3)), (13, (.if_icmp .ge 49, 3)), (16, (.aload_n 0, 1)), (17, (.getfield 12, 3)), (20, (.getfield 77, 3)), (23, (.getfield 104, 3)), (26, (.aload_n 0, 1)), (27, (.getfield 12, 3)), (30, (.getfield 226, 3)), (33, (.iload_n 1, 1)), (34, (.iconst 0, 1)), (35, (.invokevirtual 232, 3)), (38, (.iaload, 1)), (39, (.aload_n 0, 1)), (40, (.getfield 12, 3)), (43, (.getfield 226, 3)), (46, (.iload_n 1, 1)), (47, (.iconst 1, 1)), (48, (.invokevirtual 232, 3)), (51, (.if_icmp .eq 5, 3)), (54, (.iload_n 1, 1)), (55, (.ireturn, 1)), (56, (.iinc 1 1, 3)), (59, (.goto (-57), 3)), (62, (.bipush (-5), 2)), (64, (.ireturn, 1))] := DL.of (by decide +kernel)
set_option maxRecDepth 20000 in
theorem dlX9_judge_0 : DL cX9_judge [(0, (.iload_n 1, 1)), (1, (.invokestatic 235, 3)), (4, (.ifCond .ne 5, 3)), (7, (.iconst (-1), 1)), (8, (.ireturn, 1)), (9, (.aload_n 0, 1)), (10, (.getfield 67, 3)), (13, (.iload_n 1, 1)), (14, (.aaload, 1)), (15, (.astore_n 3, 1)), (16, (.aload_n 3, 1)), (17, (.getfield 238, 3)), (20, (.iconst 1, 1)), (21, (.if_icmp .eq 14, 3)), (24, (.aload_n 3, 1)), (25, (.getfield 238, 3)), (28, (.iconst (-1), 1)), (29, (.if_icmp .eq 6, 3)), (32, (.bipush (-12), 2)), (34, (.ireturn, 1)), (35, (.iload_n 2, 1)), (36, (.istore 4, 2)), (38, (.iconst 0, 1)), (39, (.istore 5, 2)), (41, (.iload 5, 2)), (43, (.aload_n 0, 1)), (44, (.getfield 12, 3)), (47, (.getfield 86, 3)), (50, (.if_icmp .ge 55, 3)), (53, (.aload_n 3, 1)), (54, (.iload 4, 2)), (56, (.invokevirtual 241, 3)), (59, (.ifCond .ne 9, 3)), (62, (.bipush 100, 2)), (64, (.iload 5, 2)), (66, (.iadd, 1)), (67, (.ireturn, 1)), (68, (.aload_n 3, 1)), (69, (.getfield 244, 3)), (72, (.iload 4, 2))] := DL.of (by decide +kernel)
set_option maxRecDepth 20000 in
theorem dlX9_judge_1 : DL cX9_judge [(74, (.laload, 1)), (75, (.aload_n 0, 1)), (76, (.getfield 12, 3)), (79, (.getfield 77, 3)), (82, (.getfield 104, 3)), (85, (.iload 5, 2)), (87, (.iaload, 1)), (88, (.i2l, 1)), (89, (.lcmp, 1)), (90, (.ifCond .eq 6, 3)), (93, (.iload 5, 2)), (95, (.ireturn, 1)), (96, (.iinc 4 1, 3)), (99, (.iinc 5 1, 3)), (102, (.goto (-61), 3)), (105, (.bipush (-5), 2)), (107, (.ireturn, 1))] := DL.of (by decide +kernel)
set_option maxRecDepth 20000 in
theorem dlX9_image_0 : DL cX9_image [(0, (.aload_n 0, 1)), (1, (.getfield 18, 3)), (4, (.aload_n 0, 1)), (5, (.getfield 12, 3)), (8, (.invokevirtual 248, 3)), (11, (.aload_n 0, 1)), (12, (.iconst 1, 1)), (13, (.putfield 21, 3)), (16, (.aload_n 0, 1)), (17, (.getfield 12, 3)), (20, (.getfield 86, 3)), (23, (.ireturn, 1))] := DL.of (by decide +kernel)
set_option maxRecDepth 20000 in
theorem dlX9_undo_0 : DL cX9_undo [(0, (.aload_n 0, 1)), (1, (.getfield 21, 3)), (4, (.ifCond .ne 6, 3)), (7, (.bipush (-3), 2)), (9, (.ireturn, 1)), (10, (.aload_n 0, 1)), (11, (.getfield 12, 3)), (14, (.aload_n 0, 1)), (15, (.getfield 18, 3)), (18, (.invokevirtual 248, 3)), (21, (.aload_n 0, 1)), (22, (.getfield 12, 3)), (25, (.getfield 86, 3)), (28, (.ireturn, 1))] := DL.of (by decide +kernel)
set_option maxRecDepth 20000 in
theorem dlX9_act_0 : DL cX9_act [(0, (.aload_n 0, 1)), (1, (.getfield 61, 3)), (4, (.iconst 0, 1)), (5, (.putfield 251, 3)), (8, (.aload_n 0, 1)), (9, (.iload_n 1, 1)), (10, (.invokevirtual 93, 3)), (13, (.ifCond .eq 12, 3)), (16, (.iload_n 2, 1)), (17, (.iconst 0, 1)), (18, (.iconst 2, 1)), (19, (.invokestatic 73, 3)), (22, (.ifCond .ne 5, 3)), (25, (.iconst 0, 1)), (26, (.ireturn, 1)), (27, (.aload_n 0, 1)), (28, (.getfield 61, 3)), (31, (.iload_n 1, 1)), (32, (.aload_n 0, 1)), (33, (.getfield 12, 3)), (36, (.getfield 97, 3)), (39, (.iload_n 1, 1)), (40, (.iaload, 1)), (41, (.aload_n 0, 1)), (42, (.getfield 12, 3)), (45, (.getfield 101, 3)), (48, (.iload_n 1, 1)), (49, (.iaload, 1)), (50, (.iload_n 2, 1)), (51, (.iload_n 3, 1)), (52, (.invokevirtual 254, 3)), (55, (.ireturn, 1))] := DL.of (by decide +kernel)
set_option maxRecDepth 20000 in
theorem dlX9_trace_0 : DL cX9_trace [(0, (.iload_n 1, 1)), (1, (.iconst 0, 1)), (2, (.aload_n 0, 1)), (3, (.getfield 61, 3)), (6, (.getfield 251, 3)), (9, (.bipush 20, 2)), (11, (.invokestatic 258, 3)), (14, (.iconst 1, 1)), (15, (.isub, 1)), (16, (.invokestatic 73, 3)), (19, (.ifCond .eq 15, 3)), (22, (.aload_n 0, 1)), (23, (.getfield 61, 3)), (26, (.getfield 263, 3)), (29, (.iload_n 1, 1)), (30, (.iaload, 1)), (31, (.goto 4, 3)), (34, (.iconst (-1), 1)), (35, (.ireturn, 1))] := DL.of (by decide +kernel)
set_option maxRecDepth 20000 in
theorem dlX9_taken_0 : DL cX9_taken [(0, (.iload_n 2, 1)), (1, (.iconst 0, 1)), (2, (.bipush 6, 2)), (4, (.invokestatic 73, 3)), (7, (.ifCond .ne 6, 3)), (10, (.bipush (-2), 2)), (12, (.ireturn, 1)), (13, (.aload_n 0, 1)), (14, (.iload_n 1, 1)), (15, (.invokevirtual 93, 3)), (18, (.ifCond .ne 6, 3)), (21, (.bipush (-11), 2)), (23, (.ireturn, 1)), (24, (.aload_n 0, 1)), (25, (.getfield 12, 3)), (28, (.getfield 97, 3)), (31, (.iload_n 1, 1)), (32, (.iaload, 1)), (33, (.istore_n 3, 1)), (34, (.iload_n 3, 1)), (35, (.iload_n 2, 1)), (36, (.invokestatic 266, 3)), (39, (.ifCond .eq 7, 3)), (42, (.iload_n 3, 1)), (43, (.goto 5, 3)), (46, (.bipush (-12), 2)), (48, (.ireturn, 1))] := DL.of (by decide +kernel)
set_option maxRecDepth 20000 in
theorem dlX9_count_0 : DL cX9_count [(0, (.iload_n 1, 1)), (1, (.tableswitch 105 0 6 #[43, 51, 56, 67, 78, 89, 97], 43)), (44, (.aload_n 0, 1)), (45, (.getfield 12, 3)), (48, (.getfield 86, 3)), (51, (.ireturn, 1)), (52, (.aload_n 0, 1)), (53, (.getfield 38, 3)), (56, (.ireturn, 1)), (57, (.aload_n 0, 1)), (58, (.getfield 12, 3)), (61, (.getfield 187, 3)), (64, (.getfield 229, 3)), (67, (.ireturn, 1)), (68, (.aload_n 0, 1)), (69, (.getfield 12, 3)), (72, (.getfield 220, 3)), (75, (.getfield 229, 3)), (78, (.ireturn, 1)), (79, (.aload_n 0, 1)), (80, (.getfield 12, 3)), (83, (.getfield 226, 3)), (86, (.getfield 229, 3)), (89, (.ireturn, 1)), (90, (.aload_n 0, 1)), (91, (.getfield 28, 3)), (94, (.getfield 136, 3)), (97, (.ireturn, 1)), (98, (.aload_n 0, 1)), (99, (.getfield 61, 3)), (102, (.getfield 251, 3)), (105, (.ireturn, 1)), (106, (.bipush (-2), 2)), (108, (.ireturn, 1))] := DL.of (by decide +kernel)
set_option maxRecDepth 20000 in
theorem dlX9_tape_0 : DL cX9_tape [(0, (.iload_n 1, 1)), (1, (.invokestatic 235, 3)), (4, (.ifCond .ne 5, 3)), (7, (.iconst (-1), 1)), (8, (.ireturn, 1)), (9, (.iload_n 2, 1)), (10, (.iconst (-1), 1)), (11, (.if_icmp .ne 16, 3)), (14, (.aload_n 0, 1)), (15, (.getfield 67, 3)), (18, (.iload_n 1, 1)), (19, (.aaload, 1)), (20, (.iload_n 2, 1)), (21, (.iconst 0, 1)), (22, (.invokevirtual 270, 3)), (25, (.iconst 1, 1)), (26, (.ireturn, 1)), (27, (.iload_n 2, 1)), (28, (.iconst 0, 1)), (29, (.iconst 4, 1)), (30, (.invokestatic 73, 3)), (33, (.ifCond .eq 9, 3)), (36, (.iload_n 3, 1)), (37, (.bipush 60, 2)), (39, (.if_icmp .le 6, 3)), (42, (.bipush (-2), 2)), (44, (.ireturn, 1)), (45, (.iload_n 3, 1)), (46, (.ifCond .ge 6, 3)), (49, (.bipush (-14), 2)), (51, (.ireturn, 1)), (52, (.aload_n 0, 1)), (53, (.getfield 67, 3)), (56, (.iload_n 1, 1)), (57, (.aaload, 1)), (58, (.iload_n 2, 1)), (59, (.iload_n 3, 1)), (60, (.invokevirtual 270, 3)), (63, (.iconst 1, 1)), (64, (.ireturn, 1))] := DL.of (by decide +kernel)
set_option maxRecDepth 20000 in
theorem dlX9_item_0 : DL cX9_item [(0, (.iload_n 1, 1)), (1, (.invokestatic 235, 3)), (4, (.ifCond .ne 5, 3)), (7, (.iconst (-1), 1)), (8, (.ireturn, 1)), (9, (.aload_n 0, 1)), (10, (.getfield 67, 3)), (13, (.iload_n 1, 1)), (14, (.aaload, 1)), (15, (.getfield 238, 3)), (18, (.iconst (-1), 1)), (19, (.if_icmp .ne 6, 3)), (22, (.bipush (-11), 2)), (24, (.ireturn, 1)), (25, (.aload_n 0, 1)), (26, (.getfield 67, 3)), (29, (.iload_n 1, 1)), (30, (.aaload, 1)), (31, (.iload_n 2, 1)), (32, (.invokevirtual 241, 3)), (35, (.ifCond .ne 6, 3)), (38, (.bipush (-13), 2)), (40, (.ireturn, 1)), (41, (.aload_n 0, 1)), (42, (.getfield 67, 3)), (45, (.iload_n 1, 1)), (46, (.aaload, 1)), (47, (.getfield 244, 3)), (50, (.iload_n 2, 1)), (51, (.aload_n 0, 1)), (52, (.getfield 67, 3)), (55, (.iload_n 1, 1)), (56, (.aaload, 1)), (57, (.lload_n 3, 1)), (58, (.invokevirtual 274, 3)), (61, (.lastore, 1)), (62, (.iconst 1, 1)), (63, (.ireturn, 1))] := DL.of (by decide +kernel)
set_option maxRecDepth 20000 in
theorem dlX9_read_0 : DL cX9_read [(0, (.iload_n 1, 1)), (1, (.invokestatic 235, 3)), (4, (.ifCond .eq 16, 3)), (7, (.aload_n 0, 1)), (8, (.getfield 67, 3)), (11, (.iload_n 1, 1)), (12, (.aaload, 1)), (13, (.iload_n 2, 1)), (14, (.invokevirtual 241, 3)), (17, (.ifCond .ne 7, 3)), (20, (.ldc2_w 211, 3)), (23, (.lreturn, 1)), (24, (.aload_n 0, 1)), (25, (.getfield 67, 3)), (28, (.iload_n 1, 1)), (29, (.aaload, 1)), (30, (.getfield 244, 3)), (33, (.iload_n 2, 1)), (34, (.laload, 1)), (35, (.lreturn, 1))] := DL.of (by decide +kernel)
set_option maxRecDepth 20000 in
theorem dlX9_shift_0 : DL cX9_shift [(0, (.iload_n 1, 1)), (1, (.invokestatic 235, 3)), (4, (.ifCond .eq 10, 3)), (7, (.iload_n 3, 1)), (8, (.invokestatic 235, 3)), (11, (.ifCond .ne 5, 3)), (14, (.iconst (-1), 1)), (15, (.ireturn, 1)), (16, (.aload_n 0, 1)), (17, (.getfield 67, 3)), (20, (.iload_n 1, 1)), (21, (.aaload, 1)), (22, (.astore 6, 2)), (24, (.aload_n 0, 1)), (25, (.getfield 67, 3)), (28, (.iload_n 3, 1)), (29, (.aaload, 1)), (30, (.astore 7, 2)), (32, (.aload 6, 2)), (34, (.getfield 238, 3)), (37, (.iconst (-1), 1)), (38, (.if_icmp .eq 12, 3)), (41, (.aload 7, 2)), (43, (.getfield 238, 3)), (46, (.iconst (-1), 1)), (47, (.if_icmp .ne 6, 3)), (50, (.bipush (-11), 2)), (52, (.ireturn, 1)), (53, (.aload 6, 2)), (55, (.getfield 238, 3)), (58, (.aload 7, 2)), (60, (.getfield 238, 3)), (63, (.if_icmp .eq 6, 3)), (66, (.bipush (-12), 2)), (68, (.ireturn, 1)), (69, (.aload 6, 2)), (71, (.iload_n 2, 1)), (72, (.iload 5, 2)), (74, (.invokevirtual 278, 3)), (77, (.ifCond .eq 15, 3))] := DL.of (by decide +kernel)
set_option maxRecDepth 20000 in
theorem dlX9_shift_1 : DL cX9_shift [(80, (.aload 7, 2)), (82, (.iload 4, 2)), (84, (.iload 5, 2)), (86, (.invokevirtual 278, 3)), (89, (.ifCond .ne 6, 3)), (92, (.bipush (-13), 2)), (94, (.ireturn, 1)), (95, (.aload 6, 2)), (97, (.getfield 244, 3)), (100, (.iload_n 2, 1)), (101, (.aload 7, 2)), (103, (.getfield 244, 3)), (106, (.iload 4, 2)), (108, (.iload 5, 2)), (110, (.invokestatic 281, 3)), (113, (.iload 5, 2)), (115, (.ireturn, 1))] := DL.of (by decide +kernel)
set_option maxRecDepth 20000 in
theorem dlX9_isClock_0 : DL cX9_isClock [(0, (.iload_n 1, 1)), (1, (.ifCond .lt 18, 3)), (4, (.iload_n 1, 1)), (5, (.aload_n 0, 1)), (6, (.getfield 12, 3)), (9, (.getfield 86, 3)), (12, (.if_icmp .ge 7, 3)), (15, (.iconst 1, 1)), (16, (.goto 4, 3)), (19, (.iconst 0, 1)), (20, (.ireturn, 1))] := DL.of (by decide +kernel)
set_option maxRecDepth 20000 in
theorem dlX9_isTape_0 : DL cX9_isTape [(0, (.iload_n 0, 1)), (1, (.ifCond .lt 13, 3)), (4, (.iload_n 0, 1)), (5, (.bipush 6, 2)), (7, (.if_icmp .ge 7, 3)), (10, (.iconst 1, 1)), (11, (.goto 4, 3)), (14, (.iconst 0, 1)), (15, (.ireturn, 1))] := DL.of (by decide +kernel)
set_option maxRecDepth 20000 in
theorem dlX9_within_0 : DL cX9_within [(0, (.iload_n 0, 1)), (1, (.iload_n 1, 1)), (2, (.if_icmp .lt 12, 3)), (5, (.iload_n 0, 1)), (6, (.iload_n 2, 1)), (7, (.if_icmp .gt 7, 3)), (10, (.iconst 1, 1)), (11, (.goto 4, 3)), (14, (.iconst 0, 1)), (15, (.ireturn, 1))] := DL.of (by decide +kernel)
set_option maxRecDepth 20000 in
theorem dlX9_isUnder_0 : DL cX9_isUnder [(0, (.iload_n 0, 1)), (1, (.istore_n 2, 1)), (2, (.iconst 0, 1)), (3, (.istore_n 3, 1)), (4, (.iload_n 3, 1)), (5, (.bipush 7, 2)), (7, (.if_icmp .ge 26, 3)), (10, (.iload_n 2, 1)), (11, (.ifCond .lt 22, 3)), (14, (.iload_n 2, 1)), (15, (.iload_n 1, 1)), (16, (.if_icmp .ne 5, 3)), (19, (.iconst 1, 1)), (20, (.ireturn, 1)), (21, (.getstatic 287, 3)), (24, (.iload_n 2, 1)), (25, (.iaload, 1)), (26, (.istore_n 2, 1)), (27, (.iinc 3 1, 3)), (30, (.goto (-26), 3)), (33, (.iconst 0, 1)), (34, (.ireturn, 1))] := DL.of (by decide +kernel)
set_option maxRecDepth 20000 in
theorem dlX9_lowest_0 : DL cX9_lowest [(0, (.iload_n 0, 1)), (1, (.iload_n 1, 1)), (2, (.invokestatic 290, 3)), (5, (.istore_n 3, 1)), (6, (.iload_n 1, 1)), (7, (.ifCond .eq 7, 3)), (10, (.iload_n 3, 1)), (11, (.ifCond .ne 7, 3)), (14, (.ldc2_w 211, 3)), (17, (.lreturn, 1)), (18, (.iload_n 2, 1)), (19, (.lookupswitch 35 #[(0, 25), (1, 30)], 25)), (44, (.iload_n 0, 1)), (45, (.iload_n 3, 1)), (46, (.idiv, 1)), (47, (.i2l, 1)), (48, (.lreturn, 1)), (49, (.iload_n 1, 1)), (50, (.iload_n 3, 1)), (51, (.idiv, 1)), (52, (.i2l, 1)), (53, (.lreturn, 1)), (54, (.ldc2_w 211, 3)), (57, (.lreturn, 1))] := DL.of (by decide +kernel)
set_option maxRecDepth 20000 in
theorem dlX9_commonDivisor_0 : DL cX9_commonDivisor [(0, (.iload_n 0, 1)), (1, (.istore_n 2, 1)), (2, (.iload_n 1, 1)), (3, (.istore_n 3, 1)), (4, (.iconst 0, 1)), (5, (.istore 4, 2)), (7, (.iload 4, 2)), (9, (.sipush 1000, 3)), (12, (.if_icmp .ge 23, 3)), (15, (.iload_n 3, 1)), (16, (.ifCond .eq 19, 3)), (19, (.iload_n 2, 1)), (20, (.iload_n 3, 1)), (21, (.irem, 1)), (22, (.istore 5, 2)), (24, (.iload_n 3, 1)), (25, (.istore_n 2, 1)), (26, (.iload 5, 2)), (28, (.istore_n 3, 1)), (29, (.iinc 4 1, 3)), (32, (.goto (-25), 3)), (35, (.iload_n 2, 1)), (36, (.ireturn, 1))] := DL.of (by decide +kernel)
set_option maxRecDepth 20000 in
theorem dlX10_init_0 : DL cX10_init [(0, (.aload_n 0, 1)), (1, (.invokespecial 1, 3)), (4, (.aload_n 0, 1)), (5, (.iconst 0, 1)), (6, (.putfield 7, 3)), (9, (.aload_n 0, 1)), (10, (.iconst 0, 1)), (11, (.putfield 13, 3)), (14, (.aload_n 0, 1)), (15, (.bipush 100, 2)), (17, (.putfield 16, 3)), (20, (.aload_n 0, 1)), (21, (.bipush 6, 2)), (23, (.newarray .int, 2)), (25, (.putfield 19, 3)), (28, (.aload_n 0, 1)), (29, (.bipush 6, 2)), (31, (.newarray .int, 2)), (33, (.putfield 23, 3)), (36, (.aload_n 0, 1)), (37, (.bipush 6, 2)), (39, (.newarray .int, 2)), (41, (.putfield 26, 3)), (44, (.aload_n 0, 1)), (45, (.bipush 24, 2)), (47, (.newarray .int, 2)), (49, (.putfield 29, 3)), (52, (.aload_n 0, 1)), (53, (.iconst 0, 1)), (54, (.putfield 32, 3)), (57, (.aload_n 0, 1)), (58, (.iconst (-1), 1)), (59, (.putfield 35, 3)), (62, (.aload_n 0, 1)), (63, (.iconst 0, 1)), (64, (.putfield 38, 3)), (67, (.aload_n 0, 1)), (68, (.iconst 0, 1)), (69, (.putfield 41, 3)), (72, (.aload_n 0, 1))] := DL.of (by decide +kernel)
set_option maxRecDepth 20000 in
theorem dlX10_init_1 : DL cX10_init [(73, (.iconst 0, 1)), (74, (.putfield 44, 3)), (77, (.aload_n 0, 1)), (78, (.bipush 100, 2)), (80, (.newarray .int, 2)), (82, (.putfield 47, 3)), (85, (.aload_n 0, 1)), (86, (.bipush 6, 2)), (88, (.newarray .int, 2)), (90, (.putfield 50, 3)), (93, (.aload_n 0, 1)), (94, (.bipush 60, 2)), (96, (.newarray .int, 2)), (98, (.putfield 53, 3)), (101, (.aload_n 0, 1)), (102, (.bipush 60, 2)), (104, (.newarray .int, 2)), (106, (.putfield 56, 3)), (109, (.aload_n 0, 1)), (110, (.bipush 60, 2)), (112, (.newarray .int, 2)), (114, (.putfield 59, 3)), (117, (.aload_n 0, 1)), (118, (.bipush 60, 2)), (120, (.newarray .int, 2)), (122, (.putfield 62, 3)), (125, (.aload_n 0, 1)), (126, (.sipush 600, 3)), (129, (.newarray .int, 2)), (131, (.putfield 65, 3)), (134, (.aload_n 0, 1)), (135, (.bipush 101, 2)), (137, (.newarray .int, 2)), (139, (.putfield 68, 3)), (142, (.aload_n 0, 1)), (143, (.iconst 0, 1)), (144, (.putfield 71, 3)), (147, (.aload_n 0, 1)), (148, (.iconst 0, 1)), (149, (.putfield 74, 3))] := DL.of (by decide +kernel)
set_option maxRecDepth 20000 in
theorem dlX10_init_2 : DL cX10_init [(152, (.aload_n 0, 1)), (153, (.iconst 0, 1)), (154, (.putfield 77, 3)), (157, (.aload_n 0, 1)), (158, (.bipush 12, 2)), (160, (.newarray .int, 2)), (162, (.dup, 1)), (163, (.iconst 0, 1)), (164, (.bipush 110, 2)), (166, (.iastore, 1)), (167, (.dup, 1)), (168, (.iconst 1, 1)), (169, (.bipush 101, 2)), (171, (.iastore, 1)), (172, (.dup, 1)), (173, (.iconst 2, 1)), (174, (.bipush 119, 2)), (176, (.iastore, 1)), (177, (.dup, 1)), (178, (.iconst 3, 1)), (179, (.bipush 115, 2)), (181, (.iastore, 1)), (182, (.dup, 1)), (183, (.iconst 4, 1)), (184, (.bipush 104, 2)), (186, (.iastore, 1)), (187, (.dup, 1)), (188, (.iconst 5, 1)), (189, (.bipush 117, 2)), (191, (.iastore, 1)), (192, (.dup, 1)), (193, (.bipush 6, 2)), (195, (.bipush 115, 2)), (197, (.iastore, 1)), (198, (.dup, 1)), (199, (.bipush 7, 2)), (201, (.bipush 104, 2)), (203, (.iastore, 1)), (204, (.dup, 1)), (205, (.bipush 8, 2))] := DL.of (by decide +kernel)
set_option maxRecDepth 20000 in
theorem dlX10_init_3 : DL cX10_init [(207, (.bipush 112, 2)), (209, (.iastore, 1)), (210, (.dup, 1)), (211, (.bipush 9, 2)), (213, (.bipush 97, 2)), (215, (.iastore, 1)), (216, (.dup, 1)), (217, (.bipush 10, 2)), (219, (.bipush 99, 2)), (221, (.iastore, 1)), (222, (.dup, 1)), (223, (.bipush 11, 2)), (225, (.bipush 101, 2)), (227, (.iastore, 1)), (228, (.putfield 80, 3)), (231, (.aload_n 0, 1)), (232, (.bipush 100, 2)), (234, (.newarray .boolean, 2)), (236, (.putfield 83, 3)), (239, (.aload_n 0, 1)), (240, (.iconst 0, 1)), (241, (.putfield 87, 3)), (244, (.aload_n 0, 1)), (245, (.sipush 4800, 3)), (248, (.newarray .int, 2)), (250, (.putfield 91, 3)), (253, (.aload_n 0, 1)), (254, (.bipush 6, 2)), (256, (.newarray .int, 2)), (258, (.putfield 94, 3)), (261, (.aload_n 0, 1)), (262, (.iconst 0, 1)), (263, (.putfield 97, 3)), (266, (.aload_n 0, 1)), (267, (.iconst 0, 1)), (268, (.putfield 100, 3)), (271, (.aload_n 0, 1)), (272, (.bipush 6, 2)), (274, (.newarray .int, 2)), (276, (.putfield 103, 3))] := DL.of (by decide +kernel)
set_option maxRecDepth 20000 in
theorem dlX10_init_4 : DL cX10_init [(279, (.aload_n 0, 1)), (280, (.bipush 6, 2)), (282, (.newarray .int, 2)), (284, (.putfield 106, 3)), (287, (.aload_n 0, 1)), (288, (.bipush 6, 2)), (290, (.newarray .int, 2)), (292, (.putfield 109, 3)), (295, (.aload_n 0, 1)), (296, (.iconst 0, 1)), (297, (.putfield 112, 3)), (300, (.aload_n 0, 1)), (301, (.iconst 5, 1)), (302, (.newarray .int, 2)), (304, (.putfield 115, 3)), (307, (.aload_n 0, 1)), (308, (.iconst 5, 1)), (309, (.newarray .int, 2)), (311, (.putfield 118, 3)), (314, (.aload_n 0, 1)), (315, (.iconst 5, 1)), (316, (.newarray .int, 2)), (318, (.putfield 121, 3)), (321, (.aload_n 0, 1)), (322, (.iconst 0, 1)), (323, (.putfield 124, 3)), (326, (.aload_n 0, 1)), (327, (.iconst 0, 1)), (328, (.putfield 127, 3)), (331, (.aload_n 0, 1)), (332, (.bipush 10, 2)), (334, (.newarray .int, 2)), (336, (.putfield 130, 3)), (339, (.aload_n 0, 1)), (340, (.bipush 8, 2)), (342, (.newarray .int, 2)), (344, (.putfield 133, 3)), (347, (.aload_n 0, 1)), (348, (.bipush 8, 2)), (350, (.newarray .int, 2))] := DL.of (by decide +kernel)
set_option maxRecDepth 20000 in
theorem dlX10_init_5 : DL cX10_init [(352, (.putfield 136, 3)), (355, (.aload_n 0, 1)), (356, (.iconst 0, 1)), (357, (.putfield 139, 3)), (360, (.aload_n 0, 1)), (361, (.iconst (-1), 1)), (362, (.putfield 142, 3)), (365, (.aload_n 0, 1)), (366, (.iconst 0, 1)), (367, (.putfield 145, 3)), (370, (.aload_n 0, 1)), (371, (.iconst 0, 1)), (372, (.putfield 148, 3)), (375, (.aload_n 0, 1)), (376, (.iconst 0, 1)), (377, (.putfield 151, 3)), (380, (.aload_n 0, 1)), (381, (.iconst 0, 1)), (382, (.putfield 154, 3)), (385, (.aload_n 0, 1)), (386, (.iconst 0, 1)), (387, (.putfield 157, 3)), (390, (.aload_n 0, 1)), (391, (.iconst 0, 1)), (392, (.putfield 160, 3)), (395, (.aload_n 0, 1)), (396, (.bipush 6, 2)), (398, (.newarray .int, 2)), (400, (.putfield 163, 3)), (403, (.aload_n 0, 1)), (404, (.bipush 6, 2)), (406, (.newarray .int, 2)), (408, (.putfield 166, 3)), (411, (.aload_n 0, 1)), (412, (.bipush 6, 2)), (414, (.newarray .int, 2)), (416, (.putfield 169, 3)), (419, (.aload_n 0, 1)), (420, (.bipush 24, 2)), (422, (.newarray .int, 2))] := DL.of (by decide +kernel)
set_option maxRecDepth 20000 in
theorem dlX10_init_6 : DL cX10_init [(424, (.putfield 172, 3)), (427, (.aload_n 0, 1)), (428, (.iconst 5, 1)), (429, (.newarray .int, 2)), (431, (.putfield 175, 3)), (434, (.aload_n 0, 1)), (435, (.iconst 5, 1)), (436, (.newarray .int, 2)), (438, (.putfield 178, 3)), (441, (.aload_n 0, 1)), (442, (.iconst 5, 1)), (443, (.newarray .int, 2)), (445, (.putfield 181, 3)), (448, (.aload_n 0, 1)), (449, (.bipush 10, 2)), (451, (.newarray .int, 2)), (453, (.putfield 184, 3)), (456, (.aload_n 0, 1)), (457, (.bipush 8, 2)), (459, (.newarray .int, 2)), (461, (.putfield 187, 3)), (464, (.aload_n 0, 1)), (465, (.bipush 8, 2)), (467, (.newarray .int, 2)), (469, (.putfield 190, 3)), (472, (.aload_n 0, 1)), (473, (.iconst 0, 1)), (474, (.putfield 193, 3)), (477, (.aload_n 0, 1)), (478, (.bipush 20, 2)), (480, (.newarray .int, 2)), (482, (.putfield 196, 3)), (485, (.aload_n 0, 1)), (486, (.bipush 6, 2)), (488, (.newarray .int, 2)), (490, (.dup, 1)), (491, (.iconst 0, 1)), (492, (.iconst (-1), 1)), (493, (.iastore, 1)), (494, (.dup, 1))] := DL.of (by decide +kernel)
set_option maxRecDepth 20000 in
theorem dlX10_init_7 : DL cX10_init [(495, (.iconst 1, 1)), (496, (.iconst (-1), 1)), (497, (.iastore, 1)), (498, (.dup, 1)), (499, (.iconst 2, 1)), (500, (.iconst (-1), 1)), (501, (.iastore, 1)), (502, (.dup, 1)), (503, (.iconst 3, 1)), (504, (.iconst (-1), 1)), (505, (.iastore, 1)), (506, (.dup, 1)), (507, (.iconst 4, 1)), (508, (.iconst (-1), 1)), (509, (.iastore, 1)), (510, (.dup, 1)), (511, (.iconst 5, 1)), (512, (.iconst (-1), 1)), (513, (.iastore, 1)), (514, (.putfield 199, 3)), (517, (.aload_n 0, 1)), (518, (.bipush 6, 2)), (520, (.newarray .int, 2)), (522, (.putfield 202, 3)), (525, (.aload_n 0, 1)), (526, (.sipush 360, 3)), (529, (.newarray .long, 2)), (531, (.putfield 205, 3)), (534, (.aload_n 0, 1)), (535, (.bipush 60, 2)), (537, (.newarray .long, 2)), (539, (.putfield 209, 3)), (542, (.return_, 1))] := DL.of (by decide +kernel)
set_option maxRecDepth 20000 in
theorem dlX10_in_0 : DL cX10_in [(0, (.iload_n 1, 1)), (1, (.iload_n 2, 1)), (2, (.if_icmp .lt 12, 3)), (5, (.iload_n 1, 1)), (6, (.iload_n 3, 1)), (7, (.if_icmp .gt 7, 3)), (10, (.iconst 1, 1)), (11, (.goto 4, 3)), (14, (.iconst 0, 1)), (15, (.ireturn, 1))] := DL.of (by decide +kernel)
set_option maxRecDepth 20000 in
theorem dlX10_has_0 : DL cX10_has [(0, (.iload_n 1, 1)), (1, (.iload_n 2, 1)), (2, (.ishr, 1)), (3, (.iconst 1, 1)), (4, (.iand, 1)), (5, (.iconst 1, 1)), (6, (.if_icmp .ne 7, 3)), (9, (.iconst 1, 1)), (10, (.goto 4, 3)), (13, (.iconst 0, 1)), (14, (.ireturn, 1))] := DL.of (by decide +kernel)
set_option maxRecDepth 20000 in
theorem dlX10_isClock_0 : DL cX10_isClock [(0, (.aload_n 0, 1)), (1, (.iload_n 1, 1)), (2, (.iconst 0, 1)), (3, (.aload_n 0, 1)), (4, (.getfield 7, 3)), (7, (.iconst 1, 1)), (8, (.isub, 1)), (9, (.invokevirtual 212, 3)), (12, (.ireturn, 1))] := DL.of (by decide +kernel)
set_option maxRecDepth 20000 in
theorem dlX10_isEvenings_0 : DL cX10_isEvenings [(0, (.aload_n 0, 1)), (1, (.iload_n 1, 1)), (2, (.iconst 0, 1)), (3, (.bipush 60, 2)), (5, (.invokevirtual 212, 3)), (8, (.ireturn, 1))] := DL.of (by decide +kernel)
set_option maxRecDepth 20000 in
theorem dlX10_isDay_0 : DL cX10_isDay [(0, (.aload_n 0, 1)), (1, (.iload_n 1, 1)), (2, (.iconst 0, 1)), (3, (.sipush 9999, 3)), (6, (.invokevirtual 212, 3)), (9, (.ireturn, 1))] := DL.of (by decide +kernel)
set_option maxRecDepth 20000 in
theorem dlX10_balks_0 : DL cX10_balks [(0, (.aload_n 0, 1)), (1, (.iload_n 2, 1)), (2, (.ifCond .eq 14, 3)), (5, (.aload_n 0, 1)), (6, (.getfield 13, 3)), (9, (.iconst 1, 1)), (10, (.iload_n 1, 1)), (11, (.ishl, 1)), (12, (.ior, 1)), (13, (.goto 13, 3)), (16, (.aload_n 0, 1)), (17, (.getfield 13, 3)), (20, (.iconst 1, 1)), (21, (.iload_n 1, 1)), (22, (.ishl, 1)), (23, (.iconst (-1), 1)), (24, (.ixor, 1)), (25, (.iand, 1)), (26, (.putfield 13, 3)), (29, (.return_, 1))] := DL.of (by decide +kernel)
set_option maxRecDepth 20000 in
theorem dlX10_clock_0 : DL cX10_clock [(0, (.aload_n 0, 1)), (1, (.iload_n 1, 1)), (2, (.iconst 0, 1)), (3, (.bipush 6, 2)), (5, (.invokevirtual 212, 3)), (8, (.ifCond .ne 5, 3)), (11, (.iconst (-1), 1)), (12, (.ireturn, 1)), (13, (.aload_n 0, 1)), (14, (.iload_n 2, 1)), (15, (.iconst 0, 1)), (16, (.bipush 9, 2)), (18, (.invokevirtual 212, 3)), (21, (.ifCond .eq 16, 3)), (24, (.aload_n 0, 1)), (25, (.iload_n 3, 1)), (26, (.iconst 0, 1)), (27, (.aload_n 0, 1)), (28, (.getfield 16, 3)), (31, (.invokevirtual 212, 3)), (34, (.ifCond .ne 6, 3)), (37, (.bipush (-2), 2)), (39, (.ireturn, 1)), (40, (.aload_n 0, 1)), (41, (.getfield 7, 3)), (44, (.bipush 6, 2)), (46, (.if_icmp .ne 6, 3)), (49, (.bipush (-4), 2)), (51, (.ireturn, 1)), (52, (.aload_n 0, 1)), (53, (.getfield 19, 3)), (56, (.aload_n 0, 1)), (57, (.getfield 7, 3)), (60, (.iload_n 1, 1)), (61, (.iastore, 1)), (62, (.aload_n 0, 1)), (63, (.getfield 23, 3)), (66, (.aload_n 0, 1)), (67, (.getfield 7, 3)), (70, (.iload_n 2, 1))] := DL.of (by decide +kernel)
set_option maxRecDepth 20000 in
theorem dlX10_clock_1 : DL cX10_clock [(71, (.iastore, 1)), (72, (.aload_n 0, 1)), (73, (.getfield 26, 3)), (76, (.aload_n 0, 1)), (77, (.getfield 7, 3)), (80, (.aload_n 0, 1)), (81, (.getfield 16, 3)), (84, (.iload_n 3, 1)), (85, (.isub, 1)), (86, (.iastore, 1)), (87, (.aload_n 0, 1)), (88, (.aload_n 0, 1)), (89, (.getfield 7, 3)), (92, (.iconst 0, 1)), (93, (.invokevirtual 216, 3)), (96, (.iconst 0, 1)), (97, (.istore 4, 2)), (99, (.iload 4, 2)), (101, (.iconst 4, 1)), (102, (.if_icmp .ge 24, 3)), (105, (.aload_n 0, 1)), (106, (.getfield 29, 3)), (109, (.iconst 4, 1)), (110, (.aload_n 0, 1)), (111, (.getfield 7, 3)), (114, (.imul, 1)), (115, (.iload 4, 2)), (117, (.iadd, 1)), (118, (.iconst 0, 1)), (119, (.iastore, 1)), (120, (.iinc 4 1, 3)), (123, (.goto (-24), 3)), (126, (.aload_n 0, 1)), (127, (.dup, 1)), (128, (.getfield 7, 3)), (131, (.iconst 1, 1)), (132, (.iadd, 1)), (133, (.putfield 7, 3)), (136, (.aload_n 0, 1)), (137, (.getfield 7, 3))] := DL.of (by decide +kernel)
set_option maxRecDepth 20000 in
theorem dlX10_clock_2 : DL cX10_clock [(140, (.iconst 1, 1)), (141, (.isub, 1)), (142, (.ireturn, 1))] := DL.of (by decide +kernel)
set_option maxRecDepth 20000 in
theorem dlX10_set_0 : DL cX10_set [(0, (.aload_n 0, 1)), (1, (.iload_n 1, 1)), (2, (.invokevirtual 220, 3)), (5, (.ifCond .ne 5, 3)), (8, (.iconst (-1), 1)), (9, (.ireturn, 1)), (10, (.aload_n 0, 1)), (11, (.iload_n 2, 1)), (12, (.iconst 0, 1)), (13, (.aload_n 0, 1)), (14, (.getfield 16, 3)), (17, (.invokevirtual 212, 3)), (20, (.ifCond .ne 6, 3)), (23, (.bipush (-2), 2)), (25, (.ireturn, 1)), (26, (.aload_n 0, 1)), (27, (.getfield 26, 3)), (30, (.iload_n 1, 1)), (31, (.iaload, 1)), (32, (.istore_n 3, 1)), (33, (.aload_n 0, 1)), (34, (.getfield 26, 3)), (37, (.iload_n 1, 1)), (38, (.iload_n 2, 1)), (39, (.iastore, 1)), (40, (.iload_n 3, 1)), (41, (.ireturn, 1))] := DL.of (by decide +kernel)
set_option maxRecDepth 20000 in
theorem dlX10_balk_0 : DL cX10_balk [(0, (.aload_n 0, 1)), (1, (.iload_n 1, 1)), (2, (.invokevirtual 220, 3)), (5, (.ifCond .ne 5, 3)), (8, (.iconst (-1), 1)), (9, (.ireturn, 1)), (10, (.aload_n 0, 1)), (11, (.aload_n 0, 1)), (12, (.getfield 13, 3)), (15, (.iload_n 1, 1)), (16, (.invokevirtual 224, 3)), (19, (.ifCond .eq 7, 3)), (22, (.iconst 1, 1)), (23, (.goto 4, 3)), (26, (.iconst 0, 1)), (27, (.istore_n 3, 1)), (28, (.aload_n 0, 1)), (29, (.iload_n 1, 1)), (30, (.iload_n 2, 1)), (31, (.invokevirtual 216, 3)), (34, (.iload_n 3, 1)), (35, (.ireturn, 1))] := DL.of (by decide +kernel)
set_option maxRecDepth 20000 in
theorem dlX10_row_0 : DL cX10_row [(0, (.aload_n 0, 1)), (1, (.iload_n 1, 1)), (2, (.invokevirtual 220, 3)), (5, (.ifCond .eq 13, 3)), (8, (.aload_n 0, 1)), (9, (.iload_n 2, 1)), (10, (.iconst 0, 1)), (11, (.iconst 3, 1)), (12, (.invokevirtual 212, 3)), (15, (.ifCond .ne 5, 3)), (18, (.iconst (-1), 1)), (19, (.ireturn, 1)), (20, (.aload_n 0, 1)), (21, (.iload_n 3, 1)), (22, (.iconst 0, 1)), (23, (.bipush 9, 2)), (25, (.invokevirtual 212, 3)), (28, (.ifCond .ne 6, 3)), (31, (.bipush (-2), 2)), (33, (.ireturn, 1)), (34, (.aload_n 0, 1)), (35, (.getfield 19, 3)), (38, (.iload_n 1, 1)), (39, (.iaload, 1)), (40, (.bipush 6, 2)), (42, (.if_icmp .eq 6, 3)), (45, (.bipush (-3), 2)), (47, (.ireturn, 1)), (48, (.aload_n 0, 1)), (49, (.getfield 29, 3)), (52, (.iconst 4, 1)), (53, (.iload_n 1, 1)), (54, (.imul, 1)), (55, (.iload_n 2, 1)), (56, (.iadd, 1)), (57, (.iaload, 1)), (58, (.istore 4, 2)), (60, (.aload_n 0, 1)), (61, (.getfield 29, 3)), (64, (.iconst 4, 1))] := DL.of (by decide +kernel)
set_option maxRecDepth 20000 in
theorem dlX10_row_1 : DL cX10_row [(65, (.iload_n 1, 1)), (66, (.imul, 1)), (67, (.iload_n 2, 1)), (68, (.iadd, 1)), (69, (.iload_n 3, 1)), (70, (.iastore, 1)), (71, (.iload 4, 2)), (73, (.ireturn, 1))] := DL.of (by decide +kernel)
set_option maxRecDepth 20000 in
theorem dlX10_feed_0 : DL cX10_feed [(0, (.aload_n 0, 1)), (1, (.iload_n 1, 1)), (2, (.iconst 0, 1)), (3, (.bipush 127, 2)), (5, (.invokevirtual 212, 3)), (8, (.ifCond .ne 6, 3)), (11, (.bipush (-2), 2)), (13, (.ireturn, 1)), (14, (.aload_n 0, 1)), (15, (.getfield 38, 3)), (18, (.bipush 100, 2)), (20, (.if_icmp .ne 6, 3)), (23, (.bipush (-4), 2)), (25, (.ireturn, 1)), (26, (.aload_n 0, 1)), (27, (.getfield 47, 3)), (30, (.aload_n 0, 1)), (31, (.getfield 38, 3)), (34, (.iload_n 1, 1)), (35, (.iastore, 1)), (36, (.aload_n 0, 1)), (37, (.dup, 1)), (38, (.getfield 38, 3)), (41, (.iconst 1, 1)), (42, (.iadd, 1)), (43, (.putfield 38, 3)), (46, (.aload_n 0, 1)), (47, (.getfield 38, 3)), (50, (.ireturn, 1))] := DL.of (by decide +kernel)
set_option maxRecDepth 20000 in
theorem dlX10_peek_0 : DL cX10_peek [(0, (.aload_n 0, 1)), (1, (.getfield 41, 3)), (4, (.aload_n 0, 1)), (5, (.getfield 38, 3)), (8, (.if_icmp .ge 15, 3)), (11, (.aload_n 0, 1)), (12, (.getfield 47, 3)), (15, (.aload_n 0, 1)), (16, (.getfield 41, 3)), (19, (.iaload, 1)), (20, (.goto 4, 3)), (23, (.iconst (-1), 1)), (24, (.ireturn, 1))] := DL.of (by decide +kernel)
set_option maxRecDepth 20000 in
theorem dlX10_takes_0 : DL cX10_takes [(0, (.aload_n 0, 1)), (1, (.invokevirtual 228, 3)), (4, (.iload_n 1, 1)), (5, (.if_icmp .eq 5, 3)), (8, (.iconst 0, 1)), (9, (.ireturn, 1)), (10, (.aload_n 0, 1)), (11, (.dup, 1)), (12, (.getfield 41, 3)), (15, (.iconst 1, 1)), (16, (.iadd, 1)), (17, (.putfield 41, 3)), (20, (.iconst 1, 1)), (21, (.ireturn, 1))] := DL.of (by decide +kernel)
set_option maxRecDepth 20000 in
theorem dlX10_takesWord_0 : DL cX10_takesWord [(0, (.iconst 0, 1)), (1, (.istore_n 3, 1)), (2, (.iload_n 3, 1)), (3, (.iload_n 2, 1)), (4, (.if_icmp .ge 26, 3)), (7, (.aload_n 0, 1)), (8, (.aload_n 0, 1)), (9, (.getfield 80, 3)), (12, (.iload_n 1, 1)), (13, (.iload_n 3, 1)), (14, (.iadd, 1)), (15, (.iaload, 1)), (16, (.invokevirtual 232, 3)), (19, (.ifCond .ne 5, 3)), (22, (.iconst 0, 1)), (23, (.ireturn, 1)), (24, (.iinc 3 1, 3)), (27, (.goto (-25), 3)), (30, (.aload_n 0, 1)), (31, (.bipush 32, 2)), (33, (.invokevirtual 232, 3)), (36, (.ireturn, 1))] := DL.of (by decide +kernel)
set_option maxRecDepth 20000 in
theorem dlX10_isDigit_0 : DL cX10_isDigit [(0, (.aload_n 0, 1)), (1, (.aload_n 0, 1)), (2, (.invokevirtual 228, 3)), (5, (.bipush 48, 2)), (7, (.bipush 57, 2)), (9, (.invokevirtual 212, 3)), (12, (.ireturn, 1))] := DL.of (by decide +kernel)
set_option maxRecDepth 20000 in
theorem dlX10_takesNumber_0 : DL cX10_takesNumber [(0, (.aload_n 0, 1)), (1, (.invokevirtual 235, 3)), (4, (.ifCond .ne 5, 3)), (7, (.iconst 0, 1)), (8, (.ireturn, 1)), (9, (.aload_n 0, 1)), (10, (.iconst 0, 1)), (11, (.putfield 44, 3)), (14, (.iconst 0, 1)), (15, (.istore_n 1, 1)), (16, (.iload_n 1, 1)), (17, (.iconst 2, 1)), (18, (.if_icmp .ge 45, 3)), (21, (.aload_n 0, 1)), (22, (.invokevirtual 235, 3)), (25, (.ifCond .eq 38, 3)), (28, (.aload_n 0, 1)), (29, (.bipush 10, 2)), (31, (.aload_n 0, 1)), (32, (.getfield 44, 3)), (35, (.imul, 1)), (36, (.aload_n 0, 1)), (37, (.invokevirtual 228, 3)), (40, (.iadd, 1)), (41, (.bipush 48, 2)), (43, (.isub, 1)), (44, (.putfield 44, 3)), (47, (.aload_n 0, 1)), (48, (.dup, 1)), (49, (.getfield 41, 3)), (52, (.iconst 1, 1)), (53, (.iadd, 1)), (54, (.putfield 41, 3)), (57, (.iinc 1 1, 3)), (60, (.goto (-44), 3)), (63, (.iconst 1, 1)), (64, (.ireturn, 1))] := DL.of (by decide +kernel)
set_option maxRecDepth 20000 in
theorem dlX10_emits_0 : DL cX10_emits [(0, (.aload_n 0, 1)), (1, (.getfield 65, 3)), (4, (.aload_n 0, 1)), (5, (.getfield 71, 3)), (8, (.iload_n 1, 1)), (9, (.iastore, 1)), (10, (.aload_n 0, 1)), (11, (.dup, 1)), (12, (.getfield 71, 3)), (15, (.iconst 1, 1)), (16, (.iadd, 1)), (17, (.putfield 71, 3)), (20, (.return_, 1))] := DL.of (by decide +kernel)
set_option maxRecDepth 20000 in
theorem dlX10_whole_0 : DL cX10_whole [(0, (.aload_n 0, 1)), (1, (.getfield 74, 3)), (4, (.ifCond .le 48, 3)), (7, (.aload_n 0, 1)), (8, (.getfield 68, 3)), (11, (.aload_n 0, 1)), (12, (.getfield 74, 3)), (15, (.iconst 1, 1)), (16, (.isub, 1)), (17, (.iaload, 1)), (18, (.bipush 33, 2)), (20, (.if_icmp .ne 32, 3)), (23, (.aload_n 0, 1)), (24, (.bipush (-33), 2)), (26, (.invokevirtual 239, 3)), (29, (.aload_n 0, 1)), (30, (.dup, 1)), (31, (.getfield 74, 3)), (34, (.iconst 1, 1)), (35, (.isub, 1)), (36, (.putfield 74, 3)), (39, (.aload_n 0, 1)), (40, (.dup, 1)), (41, (.getfield 77, 3)), (44, (.iconst 1, 1)), (45, (.isub, 1)), (46, (.putfield 77, 3)), (49, (.goto (-49), 3)), (52, (.return_, 1))] := DL.of (by decide +kernel)
set_option maxRecDepth 20000 in
theorem dlX10_settle_0 : DL cX10_settle [(0, (.aload_n 0, 1)), (1, (.getfield 74, 3)), (4, (.ifCond .le 68, 3)), (7, (.aload_n 0, 1)), (8, (.getfield 68, 3)), (11, (.aload_n 0, 1)), (12, (.getfield 74, 3)), (15, (.iconst 1, 1)), (16, (.isub, 1)), (17, (.iaload, 1)), (18, (.bipush 38, 2)), (20, (.if_icmp .eq 25, 3)), (23, (.aload_n 0, 1)), (24, (.getfield 68, 3)), (27, (.aload_n 0, 1)), (28, (.getfield 74, 3)), (31, (.iconst 1, 1)), (32, (.isub, 1)), (33, (.iaload, 1)), (34, (.bipush 124, 2)), (36, (.if_icmp .ne 36, 3)), (39, (.iload_n 1, 1)), (40, (.bipush 38, 2)), (42, (.if_icmp .eq 30, 3)), (45, (.aload_n 0, 1)), (46, (.dup, 1)), (47, (.getfield 74, 3)), (50, (.iconst 1, 1)), (51, (.isub, 1)), (52, (.putfield 74, 3)), (55, (.aload_n 0, 1)), (56, (.aload_n 0, 1)), (57, (.getfield 68, 3)), (60, (.aload_n 0, 1)), (61, (.getfield 74, 3)), (64, (.iaload, 1)), (65, (.ineg, 1)), (66, (.invokevirtual 239, 3)), (69, (.goto (-69), 3)), (72, (.return_, 1))] := DL.of (by decide +kernel)
set_option maxRecDepth 20000 in
theorem dlX10_place_0 : DL cX10_place [(0, (.iload_n 1, 1)), (1, (.tableswitch 107 99 118 #[95, 101, 107, 107, 107, 105, 107, 107, 97, 107, 107, 107, 107, 107, 107, 107, 107, 103, 107, 99], 95)), (96, (.iconst 0, 1)), (97, (.ireturn, 1)), (98, (.iconst 1, 1)), (99, (.ireturn, 1)), (100, (.iconst 2, 1)), (101, (.ireturn, 1)), (102, (.iconst 3, 1)), (103, (.ireturn, 1)), (104, (.iconst 4, 1)), (105, (.ireturn, 1)), (106, (.iconst 5, 1)), (107, (.ireturn, 1)), (108, (.iconst (-1), 1)), (109, (.ireturn, 1))] := DL.of (by decide +kernel)
set_option maxRecDepth 20000 in
theorem dlX10_takesTest_0 : DL cX10_takesTest [(0, (.aload_n 0, 1)), (1, (.aload_n 0, 1)), (2, (.invokevirtual 228, 3)), (5, (.invokevirtual 243, 3)), (8, (.istore_n 1, 1)), (9, (.iload_n 1, 1)), (10, (.ifCond .ge 5, 3)), (13, (.iconst 0, 1)), (14, (.ireturn, 1)), (15, (.aload_n 0, 1)), (16, (.dup, 1)), (17, (.getfield 41, 3)), (20, (.iconst 1, 1)), (21, (.iadd, 1)), (22, (.putfield 41, 3)), (25, (.aload_n 0, 1)), (26, (.invokevirtual 228, 3)), (29, (.istore_n 2, 1)), (30, (.aload_n 0, 1)), (31, (.iload_n 2, 1)), (32, (.bipush 60, 2)), (34, (.bipush 62, 2)), (36, (.invokevirtual 212, 3)), (39, (.ifCond .ne 5, 3)), (42, (.iconst 0, 1)), (43, (.ireturn, 1)), (44, (.aload_n 0, 1)), (45, (.dup, 1)), (46, (.getfield 41, 3)), (49, (.iconst 1, 1)), (50, (.iadd, 1)), (51, (.putfield 41, 3)), (54, (.aload_n 0, 1)), (55, (.invokevirtual 247, 3)), (58, (.ifCond .ne 5, 3)), (61, (.iconst 0, 1)), (62, (.ireturn, 1)), (63, (.aload_n 0, 1)), (64, (.sipush 1000, 3)), (67, (.iload_n 1, 1))] := DL.of (by decide +kernel)
set_option maxRecDepth 20000 in
theorem dlX10_takesTest_1 : DL cX10_takesTest [(68, (.imul, 1)), (69, (.bipush 100, 2)), (71, (.iload_n 2, 1)), (72, (.bipush 60, 2)), (74, (.isub, 1)), (75, (.imul, 1)), (76, (.iadd, 1)), (77, (.aload_n 0, 1)), (78, (.getfield 44, 3)), (81, (.iadd, 1)), (82, (.invokevirtual 239, 3)), (85, (.aload_n 0, 1)), (86, (.invokevirtual 250, 3)), (89, (.iconst 1, 1)), (90, (.ireturn, 1))] := DL.of (by decide +kernel)
set_option maxRecDepth 20000 in
theorem dlX10_takesE_0 : DL cX10_takesE [(0, (.aload_n 0, 1)), (1, (.iconst 0, 1)), (2, (.putfield 74, 3)), (5, (.aload_n 0, 1)), (6, (.iconst 0, 1)), (7, (.putfield 77, 3)), (10, (.aload_n 0, 1)), (11, (.getfield 59, 3)), (14, (.iload_n 1, 1)), (15, (.aload_n 0, 1)), (16, (.getfield 71, 3)), (19, (.iastore, 1)), (20, (.iconst 1, 1)), (21, (.istore_n 2, 1)), (22, (.aload_n 0, 1)), (23, (.invokevirtual 228, 3)), (26, (.istore_n 3, 1)), (27, (.iload_n 2, 1)), (28, (.ifCond .eq 82, 3)), (31, (.iload_n 3, 1)), (32, (.bipush 33, 2)), (34, (.if_icmp .eq 9, 3)), (37, (.iload_n 3, 1)), (38, (.bipush 40, 2)), (40, (.if_icmp .ne 56, 3)), (43, (.aload_n 0, 1)), (44, (.getfield 77, 3)), (47, (.iconst 4, 1)), (48, (.if_icmp .ne 5, 3)), (51, (.iconst 0, 1)), (52, (.ireturn, 1)), (53, (.aload_n 0, 1)), (54, (.dup, 1)), (55, (.getfield 77, 3)), (58, (.iconst 1, 1)), (59, (.iadd, 1)), (60, (.putfield 77, 3)), (63, (.aload_n 0, 1)), (64, (.getfield 68, 3)), (67, (.aload_n 0, 1))] := DL.of (by decide +kernel)
set_option maxRecDepth 20000 in
theorem dlX10_takesE_1 : DL cX10_takesE [(68, (.getfield 74, 3)), (71, (.iload_n 3, 1)), (72, (.iastore, 1)), (73, (.aload_n 0, 1)), (74, (.dup, 1)), (75, (.getfield 74, 3)), (78, (.iconst 1, 1)), (79, (.iadd, 1)), (80, (.putfield 74, 3)), (83, (.aload_n 0, 1)), (84, (.dup, 1)), (85, (.getfield 41, 3)), (88, (.iconst 1, 1)), (89, (.iadd, 1)), (90, (.putfield 41, 3)), (93, (.goto (-71), 3)), (96, (.aload_n 0, 1)), (97, (.invokevirtual 253, 3)), (100, (.ifCond .eq 8, 3)), (103, (.iconst 0, 1)), (104, (.istore_n 2, 1)), (105, (.goto (-83), 3)), (108, (.iconst 0, 1)), (109, (.ireturn, 1)), (110, (.iload_n 3, 1)), (111, (.bipush 38, 2)), (113, (.if_icmp .eq 9, 3)), (116, (.iload_n 3, 1)), (117, (.bipush 124, 2)), (119, (.if_icmp .ne 43, 3)), (122, (.aload_n 0, 1)), (123, (.iload_n 3, 1)), (124, (.invokevirtual 256, 3)), (127, (.aload_n 0, 1)), (128, (.getfield 68, 3)), (131, (.aload_n 0, 1)), (132, (.getfield 74, 3)), (135, (.iload_n 3, 1)), (136, (.iastore, 1)), (137, (.aload_n 0, 1))] := DL.of (by decide +kernel)
set_option maxRecDepth 20000 in
theorem dlX10_takesE_2 : DL cX10_takesE [(138, (.dup, 1)), (139, (.getfield 74, 3)), (142, (.iconst 1, 1)), (143, (.iadd, 1)), (144, (.putfield 74, 3)), (147, (.iconst 1, 1)), (148, (.istore_n 2, 1)), (149, (.aload_n 0, 1)), (150, (.dup, 1)), (151, (.getfield 41, 3)), (154, (.iconst 1, 1)), (155, (.iadd, 1)), (156, (.putfield 41, 3)), (159, (.goto (-137), 3)), (162, (.aload_n 0, 1)), (163, (.bipush 124, 2)), (165, (.invokevirtual 256, 3)), (168, (.aload_n 0, 1)), (169, (.getfield 62, 3)), (172, (.iload_n 1, 1)), (173, (.aload_n 0, 1)), (174, (.getfield 71, 3)), (177, (.iastore, 1)), (178, (.aload_n 0, 1)), (179, (.getfield 74, 3)), (182, (.ifCond .ne 5, 3)), (185, (.iconst 1, 1)), (186, (.ireturn, 1)), (187, (.iload_n 3, 1)), (188, (.bipush 41, 2)), (190, (.if_icmp .eq 5, 3)), (193, (.iconst 0, 1)), (194, (.ireturn, 1)), (195, (.aload_n 0, 1)), (196, (.dup, 1)), (197, (.getfield 74, 3)), (200, (.iconst 1, 1)), (201, (.isub, 1)), (202, (.putfield 74, 3)), (205, (.aload_n 0, 1))] := DL.of (by decide +kernel)
set_option maxRecDepth 20000 in
theorem dlX10_takesE_3 : DL cX10_takesE [(206, (.dup, 1)), (207, (.getfield 77, 3)), (210, (.iconst 1, 1)), (211, (.isub, 1)), (212, (.putfield 77, 3)), (215, (.aload_n 0, 1)), (216, (.dup, 1)), (217, (.getfield 41, 3)), (220, (.iconst 1, 1)), (221, (.iadd, 1)), (222, (.putfield 41, 3)), (225, (.aload_n 0, 1)), (226, (.invokevirtual 250, 3)), (229, (.goto (-207), 3))] := DL.of (by decide +kernel)
set_option maxRecDepth 20000 in
theorem dlX10_takesHead_0 : DL cX10_takesHead [(0, (.aload_n 0, 1)), (1, (.invokevirtual 228, 3)), (4, (.lookupswitch 56 #[(104, 42), (110, 28)], 28)), (32, (.aload_n 0, 1)), (33, (.getfield 53, 3)), (36, (.iload_n 1, 1)), (37, (.iconst 0, 1)), (38, (.iastore, 1)), (39, (.aload_n 0, 1)), (40, (.iconst 0, 1)), (41, (.iconst 4, 1)), (42, (.invokevirtual 259, 3)), (45, (.ireturn, 1)), (46, (.aload_n 0, 1)), (47, (.getfield 53, 3)), (50, (.iload_n 1, 1)), (51, (.iconst 1, 1)), (52, (.iastore, 1)), (53, (.aload_n 0, 1)), (54, (.iconst 4, 1)), (55, (.iconst 4, 1)), (56, (.invokevirtual 259, 3)), (59, (.ireturn, 1)), (60, (.aload_n 0, 1)), (61, (.getfield 53, 3)), (64, (.iload_n 1, 1)), (65, (.iconst 2, 1)), (66, (.iastore, 1)), (67, (.aload_n 0, 1)), (68, (.bipush 8, 2)), (70, (.iconst 4, 1)), (71, (.invokevirtual 259, 3)), (74, (.ireturn, 1))] := DL.of (by decide +kernel)
set_option maxRecDepth 20000 in
theorem dlX10_takesClause_0 : DL cX10_takesClause [(0, (.aload_n 0, 1)), (1, (.iload_n 1, 1)), (2, (.invokevirtual 262, 3)), (5, (.ifCond .eq 10, 3)), (8, (.aload_n 0, 1)), (9, (.invokevirtual 247, 3)), (12, (.ifCond .ne 5, 3)), (15, (.iconst 0, 1)), (16, (.ireturn, 1)), (17, (.aload_n 0, 1)), (18, (.getfield 56, 3)), (21, (.iload_n 1, 1)), (22, (.aload_n 0, 1)), (23, (.getfield 44, 3)), (26, (.iastore, 1)), (27, (.aload_n 0, 1)), (28, (.getfield 53, 3)), (31, (.iload_n 1, 1)), (32, (.iaload, 1)), (33, (.iconst 2, 1)), (34, (.if_icmp .eq 20, 3)), (37, (.aload_n 0, 1)), (38, (.bipush 32, 2)), (40, (.invokevirtual 232, 3)), (43, (.ifCond .eq 15, 3)), (46, (.aload_n 0, 1)), (47, (.iload_n 1, 1)), (48, (.invokevirtual 265, 3)), (51, (.ifCond .eq 7, 3)), (54, (.iconst 1, 1)), (55, (.goto 4, 3)), (58, (.iconst 0, 1)), (59, (.ireturn, 1))] := DL.of (by decide +kernel)
set_option maxRecDepth 20000 in
theorem dlX10_goesText_0 : DL cX10_goesText [(0, (.aload_n 0, 1)), (1, (.iconst 0, 1)), (2, (.putfield 41, 3)), (5, (.aload_n 0, 1)), (6, (.bipush 100, 2)), (8, (.iload_n 1, 1)), (9, (.imul, 1)), (10, (.putfield 71, 3)), (13, (.iconst 0, 1)), (14, (.istore_n 2, 1)), (15, (.aload_n 0, 1)), (16, (.bipush 10, 2)), (18, (.iload_n 1, 1)), (19, (.imul, 1)), (20, (.iload_n 2, 1)), (21, (.iadd, 1)), (22, (.invokevirtual 268, 3)), (25, (.ifCond .ne 5, 3)), (28, (.iconst 0, 1)), (29, (.ireturn, 1)), (30, (.iinc 2 1, 3)), (33, (.aload_n 0, 1)), (34, (.getfield 50, 3)), (37, (.iload_n 1, 1)), (38, (.iload_n 2, 1)), (39, (.iastore, 1)), (40, (.aload_n 0, 1)), (41, (.getfield 41, 3)), (44, (.aload_n 0, 1)), (45, (.getfield 38, 3)), (48, (.if_icmp .ne 5, 3)), (51, (.iconst 1, 1)), (52, (.ireturn, 1)), (53, (.iload_n 2, 1)), (54, (.bipush 10, 2)), (56, (.if_icmp .eq 12, 3)), (59, (.aload_n 0, 1)), (60, (.bipush 59, 2)), (62, (.invokevirtual 232, 3)), (65, (.ifCond .ne (-50), 3))] := DL.of (by decide +kernel)
set_option maxRecDepth 20000 in
theorem dlX10_goesText_1 : DL cX10_goesText [(68, (.iconst 0, 1)), (69, (.ireturn, 1))] := DL.of (by decide +kernel)
set_option maxRecDepth 20000 in
theorem dlX10_bench_0 : DL cX10_bench [(0, (.aload_n 0, 1)), (1, (.getfield 32, 3)), (4, (.bipush 6, 2)), (6, (.if_icmp .ne 6, 3)), (9, (.bipush (-4), 2)), (11, (.ireturn, 1)), (12, (.aload_n 0, 1)), (13, (.aload_n 0, 1)), (14, (.getfield 32, 3)), (17, (.invokevirtual 271, 3)), (20, (.istore_n 1, 1)), (21, (.aload_n 0, 1)), (22, (.iconst 0, 1)), (23, (.putfield 38, 3)), (26, (.iload_n 1, 1)), (27, (.ifCond .ne 11, 3)), (30, (.bipush (-10), 2)), (32, (.aload_n 0, 1)), (33, (.getfield 41, 3)), (36, (.isub, 1)), (37, (.ireturn, 1)), (38, (.aload_n 0, 1)), (39, (.aload_n 0, 1)), (40, (.getfield 32, 3)), (43, (.putfield 35, 3)), (46, (.aload_n 0, 1)), (47, (.dup, 1)), (48, (.getfield 32, 3)), (51, (.iconst 1, 1)), (52, (.iadd, 1)), (53, (.putfield 32, 3)), (56, (.aload_n 0, 1)), (57, (.getfield 35, 3)), (60, (.ireturn, 1))] := DL.of (by decide +kernel)
set_option maxRecDepth 20000 in
theorem dlX10_begin_0 : DL cX10_begin [(0, (.aload_n 0, 1)), (1, (.getfield 35, 3)), (4, (.ifCond .ge 7, 3)), (7, (.iconst 0, 1)), (8, (.goto 10, 3)), (11, (.bipush 10, 2)), (13, (.aload_n 0, 1)), (14, (.getfield 35, 3)), (17, (.imul, 1)), (18, (.ireturn, 1))] := DL.of (by decide +kernel)
set_option maxRecDepth 20000 in
theorem dlX10_behind_0 : DL cX10_behind [(0, (.aload_n 0, 1)), (1, (.getfield 35, 3)), (4, (.ifCond .ge 7, 3)), (7, (.iconst 0, 1)), (8, (.goto 20, 3)), (11, (.bipush 10, 2)), (13, (.aload_n 0, 1)), (14, (.getfield 35, 3)), (17, (.imul, 1)), (18, (.aload_n 0, 1)), (19, (.getfield 50, 3)), (22, (.aload_n 0, 1)), (23, (.getfield 35, 3)), (26, (.iaload, 1)), (27, (.iadd, 1)), (28, (.ireturn, 1))] := DL.of (by decide +kernel)
set_option maxRecDepth 20000 in
theorem dlX10_pace_0 : DL cX10_pace [(0, (.bipush 10, 2)), (2, (.istore_n 1, 1)), (3, (.aload_n 0, 1)), (4, (.invokevirtual 274, 3)), (7, (.istore_n 2, 1)), (8, (.iload_n 2, 1)), (9, (.aload_n 0, 1)), (10, (.invokevirtual 277, 3)), (13, (.if_icmp .ge 30, 3)), (16, (.aload_n 0, 1)), (17, (.getfield 53, 3)), (20, (.iload_n 2, 1)), (21, (.iaload, 1)), (22, (.iconst 2, 1)), (23, (.if_icmp .ne 12, 3)), (26, (.aload_n 0, 1)), (27, (.getfield 56, 3)), (30, (.iload_n 2, 1)), (31, (.iaload, 1)), (32, (.goto 4, 3)), (35, (.iload_n 1, 1)), (36, (.istore_n 1, 1)), (37, (.iinc 2 1, 3)), (40, (.goto (-32), 3)), (43, (.iload_n 1, 1)), (44, (.iconst 1, 1)), (45, (.if_icmp .ge 7, 3)), (48, (.iconst 1, 1)), (49, (.goto 4, 3)), (52, (.iload_n 1, 1)), (53, (.ireturn, 1))] := DL.of (by decide +kernel)
set_option maxRecDepth 20000 in
theorem dlX10_factOf_0 : DL cX10_factOf [(0, (.iload_n 1, 1)), (1, (.tableswitch 64 0 4 #[35, 37, 44, 51, 56], 35)), (36, (.iload_n 2, 1)), (37, (.ireturn, 1)), (38, (.aload_n 0, 1)), (39, (.getfield 19, 3)), (42, (.iload_n 2, 1)), (43, (.iaload, 1)), (44, (.ireturn, 1)), (45, (.aload_n 0, 1)), (46, (.getfield 23, 3)), (49, (.iload_n 2, 1)), (50, (.iaload, 1)), (51, (.ireturn, 1)), (52, (.iload_n 3, 1)), (53, (.bipush 10, 2)), (55, (.irem, 1)), (56, (.ireturn, 1)), (57, (.iload_n 3, 1)), (58, (.bipush 10, 2)), (60, (.idiv, 1)), (61, (.bipush 10, 2)), (63, (.irem, 1)), (64, (.ireturn, 1)), (65, (.iload_n 3, 1)), (66, (.bipush 100, 2)), (68, (.irem, 1)), (69, (.ireturn, 1))] := DL.of (by decide +kernel)
set_option maxRecDepth 20000 in
theorem dlX10_holds_0 : DL cX10_holds [(0, (.iconst 0, 1)), (1, (.istore 4, 2)), (3, (.aload_n 0, 1)), (4, (.getfield 59, 3)), (7, (.iload_n 1, 1)), (8, (.iaload, 1)), (9, (.istore 5, 2)), (11, (.iload 5, 2)), (13, (.aload_n 0, 1)), (14, (.getfield 62, 3)), (17, (.iload_n 1, 1)), (18, (.iaload, 1)), (19, (.if_icmp .ge 234, 3)), (22, (.aload_n 0, 1)), (23, (.getfield 65, 3)), (26, (.iload 5, 2)), (28, (.iaload, 1)), (29, (.istore 6, 2)), (31, (.iload 6, 2)), (33, (.bipush (-33), 2)), (35, (.if_icmp .ne 32, 3)), (38, (.aload_n 0, 1)), (39, (.getfield 83, 3)), (42, (.iload 4, 2)), (44, (.iconst 1, 1)), (45, (.isub, 1)), (46, (.aload_n 0, 1)), (47, (.getfield 83, 3)), (50, (.iload 4, 2)), (52, (.iconst 1, 1)), (53, (.isub, 1)), (54, (.baload, 1)), (55, (.ifCond .ne 7, 3)), (58, (.iconst 1, 1)), (59, (.goto 4, 3)), (62, (.iconst 0, 1)), (63, (.bastore, 1)), (64, (.goto 183, 3)), (67, (.iload 6, 2)), (69, (.ifCond .ge 82, 3))] := DL.of (by decide +kernel)
set_option maxRecDepth 20000 in
theorem dlX10_holds_1 : DL cX10_holds [(72, (.iinc 4 (-1), 3)), (75, (.aload_n 0, 1)), (76, (.getfield 83, 3)), (79, (.iload 4, 2)), (81, (.iconst 1, 1)), (82, (.isub, 1)), (83, (.iload 6, 2)), (85, (.bipush (-38), 2)), (87, (.if_icmp .ne 33, 3)), (90, (.aload_n 0, 1)), (91, (.getfield 83, 3)), (94, (.iload 4, 2)), (96, (.iconst 1, 1)), (97, (.isub, 1)), (98, (.baload, 1)), (99, (.ifCond .eq 17, 3)), (102, (.aload_n 0, 1)), (103, (.getfield 83, 3)), (106, (.iload 4, 2)), (108, (.baload, 1)), (109, (.ifCond .eq 7, 3)), (112, (.iconst 1, 1)), (113, (.goto 34, 3)), (116, (.iconst 0, 1)), (117, (.goto 30, 3)), (120, (.aload_n 0, 1)), (121, (.getfield 83, 3)), (124, (.iload 4, 2)), (126, (.iconst 1, 1)), (127, (.isub, 1)), (128, (.baload, 1)), (129, (.ifCond .ne 13, 3)), (132, (.aload_n 0, 1)), (133, (.getfield 83, 3)), (136, (.iload 4, 2)), (138, (.baload, 1)), (139, (.ifCond .eq 7, 3)), (142, (.iconst 1, 1)), (143, (.goto 4, 3)), (146, (.iconst 0, 1))] := DL.of (by decide +kernel)
set_option maxRecDepth 20000 in
theorem dlX10_holds_2 : DL cX10_holds [(147, (.bastore, 1)), (148, (.goto 99, 3)), (151, (.aload_n 0, 1)), (152, (.iload 6, 2)), (154, (.sipush 1000, 3)), (157, (.idiv, 1)), (158, (.iload_n 2, 1)), (159, (.iload_n 3, 1)), (160, (.invokevirtual 280, 3)), (163, (.istore 7, 2)), (165, (.iload 6, 2)), (167, (.bipush 100, 2)), (169, (.idiv, 1)), (170, (.bipush 10, 2)), (172, (.irem, 1)), (173, (.istore 8, 2)), (175, (.aload_n 0, 1)), (176, (.getfield 83, 3)), (179, (.iload 4, 2)), (181, (.iload 8, 2)), (183, (.ifCond .ne 21, 3)), (186, (.iload 7, 2)), (188, (.iload 6, 2)), (190, (.bipush 100, 2)), (192, (.irem, 1)), (193, (.if_icmp .ge 7, 3)), (196, (.iconst 1, 1)), (197, (.goto 46, 3)), (200, (.iconst 0, 1)), (201, (.goto 42, 3)), (204, (.iload 8, 2)), (206, (.iconst 1, 1)), (207, (.if_icmp .ne 21, 3)), (210, (.iload 7, 2)), (212, (.iload 6, 2)), (214, (.bipush 100, 2)), (216, (.irem, 1)), (217, (.if_icmp .ne 7, 3)), (220, (.iconst 1, 1)), (221, (.goto 22, 3))] := DL.of (by decide +kernel)
set_option maxRecDepth 20000 in
theorem dlX10_holds_3 : DL cX10_holds [(224, (.iconst 0, 1)), (225, (.goto 18, 3)), (228, (.iload 7, 2)), (230, (.iload 6, 2)), (232, (.bipush 100, 2)), (234, (.irem, 1)), (235, (.if_icmp .le 7, 3)), (238, (.iconst 1, 1)), (239, (.goto 4, 3)), (242, (.iconst 0, 1)), (243, (.bastore, 1)), (244, (.iinc 4 1, 3)), (247, (.iinc 5 1, 3)), (250, (.goto (-239), 3)), (253, (.aload_n 0, 1)), (254, (.getfield 83, 3)), (257, (.iconst 0, 1)), (258, (.baload, 1)), (259, (.ireturn, 1))] := DL.of (by decide +kernel)
set_option maxRecDepth 20000 in
theorem dlX10_newsNow_0 : DL cX10_newsNow [(0, (.iconst 1, 1)), (1, (.istore_n 3, 1)), (2, (.aload_n 0, 1)), (3, (.invokevirtual 274, 3)), (6, (.istore 4, 2)), (8, (.iload 4, 2)), (10, (.aload_n 0, 1)), (11, (.invokevirtual 277, 3)), (14, (.if_icmp .ge 65, 3)), (17, (.aload_n 0, 1)), (18, (.getfield 53, 3)), (21, (.iload 4, 2)), (23, (.iaload, 1)), (24, (.iconst 1, 1)), (25, (.if_icmp .gt 48, 3)), (28, (.aload_n 0, 1)), (29, (.iload 4, 2)), (31, (.iload_n 1, 1)), (32, (.iload_n 2, 1)), (33, (.invokevirtual 284, 3)), (36, (.ifCond .ne 6, 3)), (39, (.goto 34, 3)), (42, (.iload_n 3, 1)), (43, (.aload_n 0, 1)), (44, (.getfield 53, 3)), (47, (.iload 4, 2)), (49, (.iaload, 1)), (50, (.ifCond .ne 13, 3)), (53, (.aload_n 0, 1)), (54, (.getfield 56, 3)), (57, (.iload 4, 2)), (59, (.iaload, 1)), (60, (.goto 11, 3)), (63, (.aload_n 0, 1)), (64, (.getfield 56, 3)), (67, (.iload 4, 2)), (69, (.iaload, 1)), (70, (.ineg, 1)), (71, (.iadd, 1)), (72, (.istore_n 3, 1))] := DL.of (by decide +kernel)
set_option maxRecDepth 20000 in
theorem dlX10_newsNow_1 : DL cX10_newsNow [(73, (.iinc 4 1, 3)), (76, (.goto (-68), 3)), (79, (.iload_n 3, 1)), (80, (.ifCond .ge 7, 3)), (83, (.iconst 0, 1)), (84, (.goto 4, 3)), (87, (.iload_n 3, 1)), (88, (.ireturn, 1))] := DL.of (by decide +kernel)
set_option maxRecDepth 20000 in
theorem dlX10_layNews_0 : DL cX10_layNews [(0, (.iconst 0, 1)), (1, (.istore_n 1, 1)), (2, (.iload_n 1, 1)), (3, (.aload_n 0, 1)), (4, (.getfield 7, 3)), (7, (.if_icmp .ge 61, 3)), (10, (.aload_n 0, 1)), (11, (.getfield 94, 3)), (14, (.iload_n 1, 1)), (15, (.aload_n 0, 1)), (16, (.getfield 26, 3)), (19, (.iload_n 1, 1)), (20, (.iaload, 1)), (21, (.iastore, 1)), (22, (.iconst 0, 1)), (23, (.istore_n 2, 1)), (24, (.iload_n 2, 1)), (25, (.sipush 800, 3)), (28, (.if_icmp .ge 34, 3)), (31, (.aload_n 0, 1)), (32, (.getfield 91, 3)), (35, (.sipush 800, 3)), (38, (.iload_n 1, 1)), (39, (.imul, 1)), (40, (.iload_n 2, 1)), (41, (.iadd, 1)), (42, (.aload_n 0, 1)), (43, (.iload_n 1, 1)), (44, (.aload_n 0, 1)), (45, (.getfield 26, 3)), (48, (.iload_n 1, 1)), (49, (.iaload, 1)), (50, (.iload_n 2, 1)), (51, (.iadd, 1)), (52, (.invokevirtual 287, 3)), (55, (.iastore, 1)), (56, (.iinc 2 1, 3)), (59, (.goto (-35), 3)), (62, (.iinc 1 1, 3)), (65, (.goto (-63), 3))] := DL.of (by decide +kernel)
set_option maxRecDepth 20000 in
theorem dlX10_layNews_1 : DL cX10_layNews [(68, (.aload_n 0, 1)), (69, (.iconst 1, 1)), (70, (.putfield 87, 3)), (73, (.return_, 1))] := DL.of (by decide +kernel)
set_option maxRecDepth 20000 in
theorem dlX10_newsOf_0 : DL cX10_newsOf [(0, (.iload_n 2, 1)), (1, (.aload_n 0, 1)), (2, (.getfield 94, 3)), (5, (.iload_n 1, 1)), (6, (.iaload, 1)), (7, (.isub, 1)), (8, (.istore_n 3, 1)), (9, (.aload_n 0, 1)), (10, (.getfield 87, 3)), (13, (.ifCond .eq 30, 3)), (16, (.aload_n 0, 1)), (17, (.iload_n 3, 1)), (18, (.iconst 0, 1)), (19, (.sipush 799, 3)), (22, (.invokevirtual 212, 3)), (25, (.ifCond .eq 18, 3)), (28, (.aload_n 0, 1)), (29, (.getfield 91, 3)), (32, (.sipush 800, 3)), (35, (.iload_n 1, 1)), (36, (.imul, 1)), (37, (.iload_n 3, 1)), (38, (.iadd, 1)), (39, (.iaload, 1)), (40, (.goto 9, 3)), (43, (.aload_n 0, 1)), (44, (.iload_n 1, 1)), (45, (.iload_n 2, 1)), (46, (.invokevirtual 287, 3)), (49, (.ireturn, 1))] := DL.of (by decide +kernel)
set_option maxRecDepth 20000 in
theorem dlX10_news_0 : DL cX10_news [(0, (.aload_n 0, 1)), (1, (.iload_n 1, 1)), (2, (.invokevirtual 220, 3)), (5, (.ifCond .ne 5, 3)), (8, (.iconst (-1), 1)), (9, (.ireturn, 1)), (10, (.aload_n 0, 1)), (11, (.iload_n 2, 1)), (12, (.invokevirtual 291, 3)), (15, (.ifCond .eq 12, 3)), (18, (.aload_n 0, 1)), (19, (.iload_n 1, 1)), (20, (.iload_n 2, 1)), (21, (.invokevirtual 294, 3)), (24, (.goto 5, 3)), (27, (.bipush (-2), 2)), (29, (.ireturn, 1))] := DL.of (by decide +kernel)
set_option maxRecDepth 20000 in
theorem dlX10_holdsOf_0 : DL cX10_holdsOf [(0, (.aload_n 0, 1)), (1, (.invokevirtual 297, 3)), (4, (.istore_n 2, 1)), (5, (.iload_n 2, 1)), (6, (.iconst 2, 1)), (7, (.idiv, 1)), (8, (.iconst 1, 1)), (9, (.if_icmp .ge 7, 3)), (12, (.iconst 1, 1)), (13, (.goto 6, 3)), (16, (.iload_n 2, 1)), (17, (.iconst 2, 1)), (18, (.idiv, 1)), (19, (.istore_n 3, 1)), (20, (.aload_n 0, 1)), (21, (.getfield 19, 3)), (24, (.iload_n 1, 1)), (25, (.iaload, 1)), (26, (.tableswitch 73 1 6 #[38, 73, 42, 44, 73, 55], 38)), (64, (.iconst 2, 1)), (65, (.iload_n 2, 1)), (66, (.imul, 1)), (67, (.ireturn, 1)), (68, (.iload_n 3, 1)), (69, (.ireturn, 1)), (70, (.iconst 2, 1)), (71, (.iload_n 2, 1)), (72, (.imul, 1)), (73, (.aload_n 0, 1)), (74, (.getfield 23, 3)), (77, (.iload_n 1, 1)), (78, (.iaload, 1)), (79, (.iadd, 1)), (80, (.ireturn, 1)), (81, (.iload_n 3, 1)), (82, (.aload_n 0, 1)), (83, (.getfield 29, 3)), (86, (.iconst 4, 1)), (87, (.iload_n 1, 1)), (88, (.imul, 1))] := DL.of (by decide +kernel)
set_option maxRecDepth 20000 in
theorem dlX10_holdsOf_1 : DL cX10_holdsOf [(89, (.aload_n 0, 1)), (90, (.getfield 16, 3)), (93, (.iconst 4, 1)), (94, (.irem, 1)), (95, (.iadd, 1)), (96, (.iaload, 1)), (97, (.iadd, 1)), (98, (.ireturn, 1)), (99, (.iload_n 2, 1)), (100, (.ireturn, 1))] := DL.of (by decide +kernel)
set_option maxRecDepth 20000 in
theorem dlX10_minds_0 : DL cX10_minds [(0, (.aload_n 0, 1)), (1, (.getfield 19, 3)), (4, (.iload_n 1, 1)), (5, (.iaload, 1)), (6, (.iconst 5, 1)), (7, (.if_icmp .ne 18, 3)), (10, (.iload_n 2, 1)), (11, (.aload_n 0, 1)), (12, (.getfield 23, 3)), (15, (.iload_n 1, 1)), (16, (.iaload, 1)), (17, (.iconst 2, 1)), (18, (.iadd, 1)), (19, (.irem, 1)), (20, (.ifCond .ne 5, 3)), (23, (.iconst 0, 1)), (24, (.ireturn, 1)), (25, (.aload_n 0, 1)), (26, (.getfield 19, 3)), (29, (.iload_n 1, 1)), (30, (.iaload, 1)), (31, (.iconst 2, 1)), (32, (.if_icmp .eq 13, 3)), (35, (.aload_n 0, 1)), (36, (.getfield 19, 3)), (39, (.iload_n 1, 1)), (40, (.iaload, 1)), (41, (.iconst 5, 1)), (42, (.if_icmp .ne 24, 3)), (45, (.aload_n 0, 1)), (46, (.iload_n 1, 1)), (47, (.iload_n 2, 1)), (48, (.invokevirtual 294, 3)), (51, (.aload_n 0, 1)), (52, (.getfield 23, 3)), (55, (.iload_n 1, 1)), (56, (.iaload, 1)), (57, (.iconst 3, 1)), (58, (.iadd, 1)), (59, (.if_icmp .le 7, 3))] := DL.of (by decide +kernel)
set_option maxRecDepth 20000 in
theorem dlX10_minds_1 : DL cX10_minds [(62, (.iconst 1, 1)), (63, (.goto 4, 3)), (66, (.iconst 0, 1)), (67, (.ireturn, 1))] := DL.of (by decide +kernel)
set_option maxRecDepth 20000 in
theorem dlX10_isUp_0 : DL cX10_isUp [(0, (.aload_n 0, 1)), (1, (.getfield 26, 3)), (4, (.iload_n 1, 1)), (5, (.iaload, 1)), (6, (.aload_n 0, 1)), (7, (.getfield 16, 3)), (10, (.if_icmp .ne 7, 3)), (13, (.iconst 1, 1)), (14, (.goto 4, 3)), (17, (.iconst 0, 1)), (18, (.ireturn, 1))] := DL.of (by decide +kernel)
set_option maxRecDepth 20000 in
theorem dlX10_upMany_0 : DL cX10_upMany [(0, (.iconst 0, 1)), (1, (.istore_n 1, 1)), (2, (.iconst 0, 1)), (3, (.istore_n 2, 1)), (4, (.iload_n 2, 1)), (5, (.aload_n 0, 1)), (6, (.getfield 7, 3)), (9, (.if_icmp .ge 25, 3)), (12, (.iload_n 1, 1)), (13, (.aload_n 0, 1)), (14, (.iload_n 2, 1)), (15, (.invokevirtual 300, 3)), (18, (.ifCond .eq 7, 3)), (21, (.iconst 1, 1)), (22, (.goto 4, 3)), (25, (.iconst 0, 1)), (26, (.iadd, 1)), (27, (.istore_n 1, 1)), (28, (.iinc 2 1, 3)), (31, (.goto (-27), 3)), (34, (.iload_n 1, 1)), (35, (.ireturn, 1))] := DL.of (by decide +kernel)
set_option maxRecDepth 20000 in
theorem dlX10_left_0 : DL cX10_left [(0, (.iconst 0, 1)), (1, (.istore_n 2, 1)), (2, (.aload_n 0, 1)), (3, (.getfield 26, 3)), (6, (.iload_n 1, 1)), (7, (.iaload, 1)), (8, (.istore_n 3, 1)), (9, (.iload_n 3, 1)), (10, (.aload_n 0, 1)), (11, (.getfield 16, 3)), (14, (.if_icmp .ge 18, 3)), (17, (.iload_n 2, 1)), (18, (.aload_n 0, 1)), (19, (.iload_n 1, 1)), (20, (.iload_n 3, 1)), (21, (.invokevirtual 294, 3)), (24, (.iadd, 1)), (25, (.istore_n 2, 1)), (26, (.iinc 3 1, 3)), (29, (.goto (-20), 3)), (32, (.iload_n 2, 1)), (33, (.ireturn, 1))] := DL.of (by decide +kernel)
set_option maxRecDepth 20000 in
theorem dlX10_allLeft_0 : DL cX10_allLeft [(0, (.iconst 0, 1)), (1, (.istore_n 1, 1)), (2, (.iconst 0, 1)), (3, (.istore_n 2, 1)), (4, (.iload_n 2, 1)), (5, (.aload_n 0, 1)), (6, (.getfield 7, 3)), (9, (.if_icmp .ge 17, 3)), (12, (.iload_n 1, 1)), (13, (.aload_n 0, 1)), (14, (.iload_n 2, 1)), (15, (.invokevirtual 303, 3)), (18, (.iadd, 1)), (19, (.istore_n 1, 1)), (20, (.iinc 2 1, 3)), (23, (.goto (-19), 3)), (26, (.iload_n 1, 1)), (27, (.ireturn, 1))] := DL.of (by decide +kernel)
set_option maxRecDepth 20000 in
theorem dlX10_minded_0 : DL cX10_minded [(0, (.aload_n 0, 1)), (1, (.aload_n 0, 1)), (2, (.getfield 13, 3)), (5, (.iload_n 1, 1)), (6, (.invokevirtual 224, 3)), (9, (.ifCond .eq 6, 3)), (12, (.bipush (-5), 2)), (14, (.ireturn, 1)), (15, (.aload_n 0, 1)), (16, (.getfield 26, 3)), (19, (.iload_n 1, 1)), (20, (.iaload, 1)), (21, (.istore_n 2, 1)), (22, (.iload_n 2, 1)), (23, (.aload_n 0, 1)), (24, (.getfield 16, 3)), (27, (.if_icmp .ge 20, 3)), (30, (.aload_n 0, 1)), (31, (.iload_n 1, 1)), (32, (.iload_n 2, 1)), (33, (.invokevirtual 306, 3)), (36, (.ifCond .eq 5, 3)), (39, (.iload_n 2, 1)), (40, (.ireturn, 1)), (41, (.iinc 2 1, 3)), (44, (.goto (-22), 3)), (47, (.bipush (-5), 2)), (49, (.ireturn, 1))] := DL.of (by decide +kernel)
set_option maxRecDepth 20000 in
theorem dlX10_goNight_0 : DL cX10_goNight [(0, (.iconst 0, 1)), (1, (.istore_n 1, 1)), (2, (.iload_n 1, 1)), (3, (.aload_n 0, 1)), (4, (.getfield 7, 3)), (7, (.if_icmp .ge 31, 3)), (10, (.aload_n 0, 1)), (11, (.getfield 26, 3)), (14, (.iload_n 1, 1)), (15, (.dup2, 1)), (16, (.iaload, 1)), (17, (.aload_n 0, 1)), (18, (.iload_n 1, 1)), (19, (.invokevirtual 300, 3)), (22, (.ifCond .eq 7, 3)), (25, (.iconst 1, 1)), (26, (.goto 4, 3)), (29, (.iconst 0, 1)), (30, (.iadd, 1)), (31, (.iastore, 1)), (32, (.iinc 1 1, 3)), (35, (.goto (-33), 3)), (38, (.aload_n 0, 1)), (39, (.dup, 1)), (40, (.getfield 16, 3)), (43, (.iconst 1, 1)), (44, (.iadd, 1)), (45, (.putfield 16, 3)), (48, (.return_, 1))] := DL.of (by decide +kernel)
set_option maxRecDepth 20000 in
theorem dlX10_goEvening_0 : DL cX10_goEvening [(0, (.iconst 0, 1)), (1, (.istore_n 2, 1)), (2, (.iconst 0, 1)), (3, (.istore_n 3, 1)), (4, (.aload_n 0, 1)), (5, (.iload_n 1, 1)), (6, (.invokevirtual 309, 3)), (9, (.istore 4, 2)), (11, (.iload_n 2, 1)), (12, (.bipush 30, 2)), (14, (.if_icmp .ge 107, 3)), (17, (.aload_n 0, 1)), (18, (.getfield 26, 3)), (21, (.iload_n 1, 1)), (22, (.iaload, 1)), (23, (.aload_n 0, 1)), (24, (.getfield 16, 3)), (27, (.if_icmp .ge 94, 3)), (30, (.aload_n 0, 1)), (31, (.aload_n 0, 1)), (32, (.getfield 13, 3)), (35, (.iload_n 1, 1)), (36, (.invokevirtual 224, 3)), (39, (.ifCond .ne 82, 3)), (42, (.aload_n 0, 1)), (43, (.iload_n 1, 1)), (44, (.aload_n 0, 1)), (45, (.getfield 26, 3)), (48, (.iload_n 1, 1)), (49, (.iaload, 1)), (50, (.invokevirtual 294, 3)), (53, (.istore 5, 2)), (55, (.aload_n 0, 1)), (56, (.iload_n 1, 1)), (57, (.aload_n 0, 1)), (58, (.getfield 26, 3)), (61, (.iload_n 1, 1)), (62, (.iaload, 1)), (63, (.invokevirtual 306, 3)), (66, (.ifCond .eq 12, 3))] := DL.of (by decide +kernel)
set_option maxRecDepth 20000 in
theorem dlX10_goEvening_1 : DL cX10_goEvening [(69, (.aload_n 0, 1)), (70, (.iload_n 1, 1)), (71, (.iconst 1, 1)), (72, (.invokevirtual 216, 3)), (75, (.goto 43, 3)), (78, (.iload_n 2, 1)), (79, (.ifCond .eq 12, 3)), (82, (.iload_n 3, 1)), (83, (.iload 5, 2)), (85, (.iadd, 1)), (86, (.iload 4, 2)), (88, (.if_icmp .gt 24, 3)), (91, (.iload_n 3, 1)), (92, (.iload 5, 2)), (94, (.iadd, 1)), (95, (.istore_n 3, 1)), (96, (.iinc 2 1, 3)), (99, (.aload_n 0, 1)), (100, (.getfield 26, 3)), (103, (.iload_n 1, 1)), (104, (.dup2, 1)), (105, (.iaload, 1)), (106, (.iconst 1, 1)), (107, (.iadd, 1)), (108, (.iastore, 1)), (109, (.goto 9, 3)), (112, (.aload_n 0, 1)), (113, (.invokevirtual 312, 3)), (116, (.iload_n 2, 1)), (117, (.ireturn, 1)), (118, (.goto (-107), 3)), (121, (.aload_n 0, 1)), (122, (.invokevirtual 312, 3)), (125, (.iload_n 2, 1)), (126, (.ireturn, 1))] := DL.of (by decide +kernel)
set_option maxRecDepth 20000 in
theorem dlX10_tell_0 : DL cX10_tell [(0, (.aload_n 0, 1)), (1, (.iload_n 1, 1)), (2, (.invokevirtual 220, 3)), (5, (.ifCond .ne 5, 3)), (8, (.iconst (-1), 1)), (9, (.ireturn, 1)), (10, (.aload_n 0, 1)), (11, (.getfield 16, 3)), (14, (.sipush 9999, 3)), (17, (.if_icmp .ne 8, 3)), (20, (.bipush (-3), 2)), (22, (.goto 8, 3)), (25, (.aload_n 0, 1)), (26, (.iload_n 1, 1)), (27, (.invokevirtual 315, 3)), (30, (.ireturn, 1))] := DL.of (by decide +kernel)
set_option maxRecDepth 20000 in
theorem dlX10_pass_0 : DL cX10_pass [(0, (.aload_n 0, 1)), (1, (.iload_n 1, 1)), (2, (.invokevirtual 318, 3)), (5, (.ifCond .ne 6, 3)), (8, (.bipush (-2), 2)), (10, (.ireturn, 1)), (11, (.aload_n 0, 1)), (12, (.getfield 16, 3)), (15, (.iload_n 1, 1)), (16, (.iadd, 1)), (17, (.sipush 9999, 3)), (20, (.if_icmp .le 6, 3)), (23, (.bipush (-3), 2)), (25, (.ireturn, 1)), (26, (.iconst 0, 1)), (27, (.istore_n 2, 1)), (28, (.iload_n 2, 1)), (29, (.iload_n 1, 1)), (30, (.if_icmp .ge 13, 3)), (33, (.aload_n 0, 1)), (34, (.invokevirtual 312, 3)), (37, (.iinc 2 1, 3)), (40, (.goto (-12), 3)), (43, (.aload_n 0, 1)), (44, (.getfield 16, 3)), (47, (.ireturn, 1))] := DL.of (by decide +kernel)
set_option maxRecDepth 20000 in
theorem dlX10_save_0 : DL cX10_save [(0, (.aload_n 0, 1)), (1, (.aload_n 0, 1)), (2, (.getfield 13, 3)), (5, (.putfield 97, 3)), (8, (.aload_n 0, 1)), (9, (.aload_n 0, 1)), (10, (.getfield 16, 3)), (13, (.putfield 100, 3)), (16, (.iconst 0, 1)), (17, (.istore_n 1, 1)), (18, (.iload_n 1, 1)), (19, (.bipush 6, 2)), (21, (.if_icmp .ge 21, 3)), (24, (.aload_n 0, 1)), (25, (.getfield 103, 3)), (28, (.iload_n 1, 1)), (29, (.aload_n 0, 1)), (30, (.getfield 26, 3)), (33, (.iload_n 1, 1)), (34, (.iaload, 1)), (35, (.iastore, 1)), (36, (.iinc 1 1, 3)), (39, (.goto (-21), 3)), (42, (.return_, 1))] := DL.of (by decide +kernel)
set_option maxRecDepth 20000 in
theorem dlX10_putBack_0 : DL cX10_putBack [(0, (.aload_n 0, 1)), (1, (.aload_n 0, 1)), (2, (.getfield 97, 3)), (5, (.putfield 13, 3)), (8, (.aload_n 0, 1)), (9, (.aload_n 0, 1)), (10, (.getfield 100, 3)), (13, (.putfield 16, 3)), (16, (.iconst 0, 1)), (17, (.istore_n 1, 1)), (18, (.iload_n 1, 1)), (19, (.bipush 6, 2)), (21, (.if_icmp .ge 21, 3)), (24, (.aload_n 0, 1)), (25, (.getfield 26, 3)), (28, (.iload_n 1, 1)), (29, (.aload_n 0, 1)), (30, (.getfield 103, 3)), (33, (.iload_n 1, 1)), (34, (.iaload, 1)), (35, (.iastore, 1)), (36, (.iinc 1 1, 3)), (39, (.goto (-21), 3)), (42, (.return_, 1))] := DL.of (by decide +kernel)
set_option maxRecDepth 20000 in
theorem dlX10_whole__0 : DL cX10_whole_ [(0, (.aload_n 0, 1)), (1, (.invokevirtual 321, 3)), (4, (.iconst 0, 1)), (5, (.istore_n 2, 1)), (6, (.iload_n 2, 1)), (7, (.bipush 61, 2)), (9, (.if_icmp .ge 23, 3)), (12, (.aload_n 0, 1)), (13, (.iload_n 1, 1)), (14, (.invokevirtual 300, 3)), (17, (.ifCond .ne 15, 3)), (20, (.aload_n 0, 1)), (21, (.iload_n 1, 1)), (22, (.invokevirtual 315, 3)), (25, (.pop, 1)), (26, (.iinc 2 1, 3)), (29, (.goto (-23), 3)), (32, (.aload_n 0, 1)), (33, (.invokevirtual 324, 3)), (36, (.iload_n 2, 1)), (37, (.bipush 61, 2)), (39, (.if_icmp .ge 7, 3)), (42, (.iload_n 2, 1)), (43, (.goto 5, 3)), (46, (.bipush (-5), 2)), (48, (.ireturn, 1))] := DL.of (by decide +kernel)
set_option maxRecDepth 20000 in
theorem dlX10_of_0 : DL cX10_of [(0, (.aload_n 0, 1)), (1, (.iload_n 1, 1)), (2, (.invokevirtual 220, 3)), (5, (.ifCond .ne 5, 3)), (8, (.iconst (-1), 1)), (9, (.ireturn, 1)), (10, (.iload_n 2, 1)), (11, (.tableswitch 108 0 7 #[45, 52, 59, 66, 84, 90, 96, 102], 45)), (56, (.aload_n 0, 1)), (57, (.getfield 19, 3)), (60, (.iload_n 1, 1)), (61, (.iaload, 1)), (62, (.ireturn, 1)), (63, (.aload_n 0, 1)), (64, (.getfield 23, 3)), (67, (.iload_n 1, 1)), (68, (.iaload, 1)), (69, (.ireturn, 1)), (70, (.aload_n 0, 1)), (71, (.getfield 26, 3)), (74, (.iload_n 1, 1)), (75, (.iaload, 1)), (76, (.ireturn, 1)), (77, (.aload_n 0, 1)), (78, (.aload_n 0, 1)), (79, (.getfield 13, 3)), (82, (.iload_n 1, 1)), (83, (.invokevirtual 224, 3)), (86, (.ifCond .eq 7, 3)), (89, (.iconst 1, 1)), (90, (.goto 4, 3)), (93, (.iconst 0, 1)), (94, (.ireturn, 1)), (95, (.aload_n 0, 1)), (96, (.iload_n 1, 1)), (97, (.invokevirtual 303, 3)), (100, (.ireturn, 1)), (101, (.aload_n 0, 1)), (102, (.iload_n 1, 1)), (103, (.invokevirtual 309, 3))] := DL.of (by decide +kernel)
set_option maxRecDepth 20000 in
theorem dlX10_of_1 : DL cX10_of [(106, (.ireturn, 1)), (107, (.aload_n 0, 1)), (108, (.iload_n 1, 1)), (109, (.invokevirtual 327, 3)), (112, (.ireturn, 1)), (113, (.aload_n 0, 1)), (114, (.iload_n 1, 1)), (115, (.invokevirtual 330, 3)), (118, (.ireturn, 1)), (119, (.iconst (-1), 1)), (120, (.ireturn, 1))] := DL.of (by decide +kernel)
set_option maxRecDepth 20000 in
theorem dlX10_told_0 : DL cX10_told [(0, (.iload_n 1, 1)), (1, (.tableswitch 51 0 3 #[31, 36, 41, 46], 31)), (32, (.aload_n 0, 1)), (33, (.getfield 16, 3)), (36, (.ireturn, 1)), (37, (.aload_n 0, 1)), (38, (.invokevirtual 297, 3)), (41, (.ireturn, 1)), (42, (.aload_n 0, 1)), (43, (.invokevirtual 332, 3)), (46, (.ireturn, 1)), (47, (.aload_n 0, 1)), (48, (.invokevirtual 335, 3)), (51, (.ireturn, 1)), (52, (.iconst (-1), 1)), (53, (.ireturn, 1))] := DL.of (by decide +kernel)
set_option maxRecDepth 20000 in
theorem dlX10_goEvenings_0 : DL cX10_goEvenings [(0, (.iconst 0, 1)), (1, (.istore_n 3, 1)), (2, (.iload_n 3, 1)), (3, (.iload_n 2, 1)), (4, (.if_icmp .ge 15, 3)), (7, (.aload_n 0, 1)), (8, (.iload_n 1, 1)), (9, (.invokevirtual 315, 3)), (12, (.pop, 1)), (13, (.iinc 3 1, 3)), (16, (.goto (-14), 3)), (19, (.return_, 1))] := DL.of (by decide +kernel)
set_option maxRecDepth 20000 in
theorem dlX10_on_0 : DL cX10_on [(0, (.aload_n 0, 1)), (1, (.iload_n 1, 1)), (2, (.invokevirtual 220, 3)), (5, (.ifCond .eq 13, 3)), (8, (.aload_n 0, 1)), (9, (.iload_n 3, 1)), (10, (.iconst 0, 1)), (11, (.iconst 2, 1)), (12, (.invokevirtual 212, 3)), (15, (.ifCond .ne 5, 3)), (18, (.iconst (-1), 1)), (19, (.ireturn, 1)), (20, (.aload_n 0, 1)), (21, (.iload_n 2, 1)), (22, (.invokevirtual 318, 3)), (25, (.ifCond .ne 6, 3)), (28, (.bipush (-2), 2)), (30, (.ireturn, 1)), (31, (.aload_n 0, 1)), (32, (.invokevirtual 321, 3)), (35, (.aload_n 0, 1)), (36, (.iload_n 1, 1)), (37, (.iload_n 2, 1)), (38, (.invokevirtual 338, 3)), (41, (.iload_n 3, 1)), (42, (.ifCond .ne 12, 3)), (45, (.aload_n 0, 1)), (46, (.getfield 26, 3)), (49, (.iload_n 1, 1)), (50, (.iaload, 1)), (51, (.goto 33, 3)), (54, (.iload_n 3, 1)), (55, (.iconst 1, 1)), (56, (.if_icmp .ne 23, 3)), (59, (.aload_n 0, 1)), (60, (.aload_n 0, 1)), (61, (.getfield 13, 3)), (64, (.iload_n 1, 1)), (65, (.invokevirtual 224, 3)), (68, (.ifCond .eq 7, 3))] := DL.of (by decide +kernel)
set_option maxRecDepth 20000 in
theorem dlX10_on_1 : DL cX10_on [(71, (.iconst 1, 1)), (72, (.goto 12, 3)), (75, (.iconst 0, 1)), (76, (.goto 8, 3)), (79, (.aload_n 0, 1)), (80, (.iload_n 1, 1)), (81, (.invokevirtual 303, 3)), (84, (.istore 4, 2)), (86, (.aload_n 0, 1)), (87, (.invokevirtual 324, 3)), (90, (.iload 4, 2)), (92, (.ireturn, 1))] := DL.of (by decide +kernel)
set_option maxRecDepth 20000 in
theorem dlX10_layTurn_0 : DL cX10_layTurn [(0, (.iload_n 1, 1)), (1, (.istore_n 2, 1)), (2, (.iconst 0, 1)), (3, (.istore_n 3, 1)), (4, (.aload_n 0, 1)), (5, (.getfield 7, 3)), (8, (.iconst 1, 1)), (9, (.isub, 1)), (10, (.istore 4, 2)), (12, (.iload 4, 2)), (14, (.ifCond .lt 68, 3)), (17, (.aload_n 0, 1)), (18, (.getfield 106, 3)), (21, (.iload 4, 2)), (23, (.iload_n 2, 1)), (24, (.bipush 6, 2)), (26, (.irem, 1)), (27, (.iastore, 1)), (28, (.iload_n 2, 1)), (29, (.bipush 6, 2)), (31, (.idiv, 1)), (32, (.istore_n 2, 1)), (33, (.aload_n 0, 1)), (34, (.getfield 106, 3)), (37, (.iload 4, 2)), (39, (.iaload, 1)), (40, (.aload_n 0, 1)), (41, (.getfield 7, 3)), (44, (.if_icmp .ge 18, 3)), (47, (.aload_n 0, 1)), (48, (.iload_n 3, 1)), (49, (.aload_n 0, 1)), (50, (.getfield 106, 3)), (53, (.iload 4, 2)), (55, (.iaload, 1)), (56, (.invokevirtual 224, 3)), (59, (.ifCond .eq 5, 3)), (62, (.iconst 0, 1)), (63, (.ireturn, 1)), (64, (.iload_n 3, 1))] := DL.of (by decide +kernel)
set_option maxRecDepth 20000 in
theorem dlX10_layTurn_1 : DL cX10_layTurn [(65, (.iconst 1, 1)), (66, (.aload_n 0, 1)), (67, (.getfield 106, 3)), (70, (.iload 4, 2)), (72, (.iaload, 1)), (73, (.ishl, 1)), (74, (.ior, 1)), (75, (.istore_n 3, 1)), (76, (.iinc 4 (-1), 3)), (79, (.goto (-67), 3)), (82, (.iconst 1, 1)), (83, (.ireturn, 1))] := DL.of (by decide +kernel)
set_option maxRecDepth 20000 in
theorem dlX10_goWhole_0 : DL cX10_goWhole [(0, (.iconst 0, 1)), (1, (.istore_n 2, 1)), (2, (.iload_n 2, 1)), (3, (.bipush 20, 2)), (5, (.if_icmp .ge 35, 3)), (8, (.aload_n 0, 1)), (9, (.iload_n 1, 1)), (10, (.invokevirtual 300, 3)), (13, (.ifCond .ne 27, 3)), (16, (.aload_n 0, 1)), (17, (.aload_n 0, 1)), (18, (.getfield 13, 3)), (21, (.iload_n 1, 1)), (22, (.invokevirtual 224, 3)), (25, (.ifCond .ne 15, 3)), (28, (.aload_n 0, 1)), (29, (.iload_n 1, 1)), (30, (.invokevirtual 315, 3)), (33, (.pop, 1)), (34, (.iinc 2 1, 3)), (37, (.goto (-35), 3)), (40, (.iload_n 2, 1)), (41, (.ireturn, 1))] := DL.of (by decide +kernel)
set_option maxRecDepth 20000 in
theorem dlX10_goTurn_0 : DL cX10_goTurn [(0, (.aload_n 0, 1)), (1, (.invokevirtual 321, 3)), (4, (.iconst 0, 1)), (5, (.istore_n 1, 1)), (6, (.iconst 0, 1)), (7, (.istore_n 2, 1)), (8, (.iload_n 2, 1)), (9, (.aload_n 0, 1)), (10, (.getfield 7, 3)), (13, (.if_icmp .ge 22, 3)), (16, (.iload_n 1, 1)), (17, (.aload_n 0, 1)), (18, (.aload_n 0, 1)), (19, (.getfield 106, 3)), (22, (.iload_n 2, 1)), (23, (.iaload, 1)), (24, (.invokevirtual 342, 3)), (27, (.iadd, 1)), (28, (.istore_n 1, 1)), (29, (.iinc 2 1, 3)), (32, (.goto (-24), 3)), (35, (.aload_n 0, 1)), (36, (.invokevirtual 324, 3)), (39, (.iload_n 1, 1)), (40, (.ireturn, 1))] := DL.of (by decide +kernel)
set_option maxRecDepth 20000 in
theorem dlX10_soonest_0 : DL cX10_soonest [(0, (.aload_n 0, 1)), (1, (.iload_n 1, 1)), (2, (.iconst (-1), 1)), (3, (.iconst 5, 1)), (4, (.invokevirtual 212, 3)), (7, (.ifCond .ne 5, 3)), (10, (.iconst (-1), 1)), (11, (.ireturn, 1)), (12, (.aload_n 0, 1)), (13, (.invokevirtual 345, 3)), (16, (.iconst 1, 1)), (17, (.istore_n 2, 1)), (18, (.iconst 0, 1)), (19, (.istore_n 3, 1)), (20, (.iload_n 3, 1)), (21, (.aload_n 0, 1)), (22, (.getfield 7, 3)), (25, (.if_icmp .ge 14, 3)), (28, (.iload_n 2, 1)), (29, (.bipush 6, 2)), (31, (.imul, 1)), (32, (.istore_n 2, 1)), (33, (.iinc 3 1, 3)), (36, (.goto (-16), 3)), (39, (.iconst (-1), 1)), (40, (.istore_n 3, 1)), (41, (.iconst 0, 1)), (42, (.istore 4, 2)), (44, (.iload 4, 2)), (46, (.iload_n 2, 1)), (47, (.if_icmp .ge 73, 3)), (50, (.aload_n 0, 1)), (51, (.iload 4, 2)), (53, (.invokevirtual 348, 3)), (56, (.ifCond .ne 6, 3)), (59, (.goto 55, 3)), (62, (.aload_n 0, 1)), (63, (.invokevirtual 351, 3)), (66, (.istore 5, 2)), (68, (.iload_n 3, 1))] := DL.of (by decide +kernel)
set_option maxRecDepth 20000 in
theorem dlX10_soonest_1 : DL cX10_soonest [(69, (.ifCond .lt 12, 3)), (72, (.iload 5, 2)), (74, (.iload_n 3, 1)), (75, (.if_icmp .lt 6, 3)), (78, (.goto 36, 3)), (81, (.iload 5, 2)), (83, (.istore_n 3, 1)), (84, (.iconst 0, 1)), (85, (.istore 6, 2)), (87, (.iload 6, 2)), (89, (.bipush 6, 2)), (91, (.if_icmp .ge 23, 3)), (94, (.aload_n 0, 1)), (95, (.getfield 109, 3)), (98, (.iload 6, 2)), (100, (.aload_n 0, 1)), (101, (.getfield 106, 3)), (104, (.iload 6, 2)), (106, (.iaload, 1)), (107, (.iastore, 1)), (108, (.iinc 6 1, 3)), (111, (.goto (-24), 3)), (114, (.iinc 4 1, 3)), (117, (.goto (-73), 3)), (120, (.aload_n 0, 1)), (121, (.iconst 0, 1)), (122, (.putfield 87, 3)), (125, (.iload_n 1, 1)), (126, (.ifCond .ge 5, 3)), (129, (.iload_n 3, 1)), (130, (.ireturn, 1)), (131, (.iload_n 1, 1)), (132, (.aload_n 0, 1)), (133, (.getfield 7, 3)), (136, (.if_icmp .ge 12, 3)), (139, (.aload_n 0, 1)), (140, (.getfield 109, 3)), (143, (.iload_n 1, 1)), (144, (.iaload, 1)), (145, (.goto 5, 3))] := DL.of (by decide +kernel)
set_option maxRecDepth 20000 in
theorem dlX10_soonest_2 : DL cX10_soonest [(148, (.bipush (-5), 2)), (150, (.ireturn, 1))] := DL.of (by decide +kernel)
set_option maxRecDepth 20000 in
theorem dlX10_most_0 : DL cX10_most [(0, (.aload_n 0, 1)), (1, (.iload_n 2, 1)), (2, (.iconst (-1), 1)), (3, (.iconst 4, 1)), (4, (.invokevirtual 212, 3)), (7, (.ifCond .ne 5, 3)), (10, (.iconst (-1), 1)), (11, (.ireturn, 1)), (12, (.aload_n 0, 1)), (13, (.iload_n 1, 1)), (14, (.iconst 1, 1)), (15, (.iconst 5, 1)), (16, (.invokevirtual 212, 3)), (19, (.ifCond .ne 6, 3)), (22, (.bipush (-2), 2)), (24, (.ireturn, 1)), (25, (.aload_n 0, 1)), (26, (.getfield 7, 3)), (29, (.ifCond .ne 6, 3)), (32, (.bipush (-5), 2)), (34, (.ireturn, 1)), (35, (.aload_n 0, 1)), (36, (.invokevirtual 345, 3)), (39, (.iconst 1, 1)), (40, (.istore_n 3, 1)), (41, (.iconst 0, 1)), (42, (.istore 4, 2)), (44, (.iload 4, 2)), (46, (.iload_n 1, 1)), (47, (.if_icmp .ge 16, 3)), (50, (.iload_n 3, 1)), (51, (.aload_n 0, 1)), (52, (.getfield 7, 3)), (55, (.imul, 1)), (56, (.istore_n 3, 1)), (57, (.iinc 4 1, 3)), (60, (.goto (-16), 3)), (63, (.iconst 0, 1)), (64, (.istore 4, 2)), (66, (.iconst (-1), 1))] := DL.of (by decide +kernel)
set_option maxRecDepth 20000 in
theorem dlX10_most_1 : DL cX10_most [(67, (.istore 5, 2)), (69, (.iconst 0, 1)), (70, (.istore 6, 2)), (72, (.iload 6, 2)), (74, (.iload_n 3, 1)), (75, (.if_icmp .ge 98, 3)), (78, (.aload_n 0, 1)), (79, (.invokevirtual 321, 3)), (82, (.iload_n 3, 1)), (83, (.aload_n 0, 1)), (84, (.getfield 7, 3)), (87, (.idiv, 1)), (88, (.istore 7, 2)), (90, (.iconst 0, 1)), (91, (.istore 8, 2)), (93, (.iload 8, 2)), (95, (.iload_n 1, 1)), (96, (.if_icmp .ge 43, 3)), (99, (.aload_n 0, 1)), (100, (.iload 6, 2)), (102, (.iload 7, 2)), (104, (.idiv, 1)), (105, (.aload_n 0, 1)), (106, (.getfield 7, 3)), (109, (.irem, 1)), (110, (.invokevirtual 315, 3)), (113, (.pop, 1)), (114, (.iload 7, 2)), (116, (.iconst 1, 1)), (117, (.if_icmp .le 13, 3)), (120, (.iload 7, 2)), (122, (.aload_n 0, 1)), (123, (.getfield 7, 3)), (126, (.idiv, 1)), (127, (.goto 4, 3)), (130, (.iconst 1, 1)), (131, (.istore 7, 2)), (133, (.iinc 8 1, 3)), (136, (.goto (-43), 3)), (139, (.aload_n 0, 1))] := DL.of (by decide +kernel)
set_option maxRecDepth 20000 in
theorem dlX10_most_2 : DL cX10_most [(140, (.invokevirtual 332, 3)), (143, (.istore 8, 2)), (145, (.aload_n 0, 1)), (146, (.invokevirtual 324, 3)), (149, (.iload 8, 2)), (151, (.iload 5, 2)), (153, (.if_icmp .gt 6, 3)), (156, (.goto 11, 3)), (159, (.iload 6, 2)), (161, (.istore 4, 2)), (163, (.iload 8, 2)), (165, (.istore 5, 2)), (167, (.iinc 6 1, 3)), (170, (.goto (-98), 3)), (173, (.aload_n 0, 1)), (174, (.iconst 0, 1)), (175, (.putfield 87, 3)), (178, (.iload_n 2, 1)), (179, (.ifCond .ge 6, 3)), (182, (.iload 5, 2)), (184, (.ireturn, 1)), (185, (.iload_n 2, 1)), (186, (.iload_n 1, 1)), (187, (.if_icmp .lt 6, 3)), (190, (.bipush (-5), 2)), (192, (.ireturn, 1)), (193, (.iconst 1, 1)), (194, (.istore 6, 2)), (196, (.iload_n 2, 1)), (197, (.iconst 1, 1)), (198, (.iadd, 1)), (199, (.istore 7, 2)), (201, (.iload 7, 2)), (203, (.iload_n 1, 1)), (204, (.if_icmp .ge 18, 3)), (207, (.iload 6, 2)), (209, (.aload_n 0, 1)), (210, (.getfield 7, 3)), (213, (.imul, 1)), (214, (.istore 6, 2))] := DL.of (by decide +kernel)
set_option maxRecDepth 20000 in
theorem dlX10_most_3 : DL cX10_most [(216, (.iinc 7 1, 3)), (219, (.goto (-18), 3)), (222, (.iload 4, 2)), (224, (.iload 6, 2)), (226, (.idiv, 1)), (227, (.aload_n 0, 1)), (228, (.getfield 7, 3)), (231, (.irem, 1)), (232, (.ireturn, 1))] := DL.of (by decide +kernel)
set_option maxRecDepth 20000 in
theorem dlX10_next_0 : DL cX10_next [(0, (.bipush (-5), 2)), (2, (.istore_n 1, 1)), (3, (.iconst 0, 1)), (4, (.istore_n 2, 1)), (5, (.iconst 0, 1)), (6, (.istore_n 3, 1)), (7, (.iload_n 3, 1)), (8, (.aload_n 0, 1)), (9, (.getfield 7, 3)), (12, (.if_icmp .ge 47, 3)), (15, (.aload_n 0, 1)), (16, (.invokevirtual 321, 3)), (19, (.aload_n 0, 1)), (20, (.iload_n 3, 1)), (21, (.invokevirtual 315, 3)), (24, (.pop, 1)), (25, (.aload_n 0, 1)), (26, (.invokevirtual 335, 3)), (29, (.istore 4, 2)), (31, (.aload_n 0, 1)), (32, (.invokevirtual 324, 3)), (35, (.iload_n 1, 1)), (36, (.ifCond .lt 12, 3)), (39, (.iload 4, 2)), (41, (.iload_n 2, 1)), (42, (.if_icmp .lt 6, 3)), (45, (.goto 8, 3)), (48, (.iload_n 3, 1)), (49, (.istore_n 1, 1)), (50, (.iload 4, 2)), (52, (.istore_n 2, 1)), (53, (.iinc 3 1, 3)), (56, (.goto (-49), 3)), (59, (.iload_n 1, 1)), (60, (.ireturn, 1))] := DL.of (by decide +kernel)
set_option maxRecDepth 20000 in
theorem dlX10_see_0 : DL cX10_see [(0, (.iload_n 1, 1)), (1, (.iconst (-1), 1)), (2, (.if_icmp .ne 10, 3)), (5, (.aload_n 0, 1)), (6, (.iconst 0, 1)), (7, (.putfield 112, 3)), (10, (.iconst 0, 1)), (11, (.ireturn, 1)), (12, (.aload_n 0, 1)), (13, (.iload_n 1, 1)), (14, (.invokevirtual 220, 3)), (17, (.ifCond .ne 5, 3)), (20, (.iconst (-1), 1)), (21, (.ireturn, 1)), (22, (.aload_n 0, 1)), (23, (.iload_n 2, 1)), (24, (.iconst 0, 1)), (25, (.sipush 999, 3)), (28, (.invokevirtual 212, 3)), (31, (.ifCond .eq 14, 3)), (34, (.aload_n 0, 1)), (35, (.iload_n 3, 1)), (36, (.iconst 0, 1)), (37, (.bipush 20, 2)), (39, (.invokevirtual 212, 3)), (42, (.ifCond .ne 6, 3)), (45, (.bipush (-2), 2)), (47, (.ireturn, 1)), (48, (.aload_n 0, 1)), (49, (.getfield 112, 3)), (52, (.iconst 5, 1)), (53, (.if_icmp .ne 6, 3)), (56, (.bipush (-4), 2)), (58, (.ireturn, 1)), (59, (.aload_n 0, 1)), (60, (.getfield 115, 3)), (63, (.aload_n 0, 1)), (64, (.getfield 112, 3)), (67, (.iload_n 1, 1)), (68, (.iastore, 1))] := DL.of (by decide +kernel)
set_option maxRecDepth 20000 in
theorem dlX10_see_1 : DL cX10_see [(69, (.aload_n 0, 1)), (70, (.getfield 118, 3)), (73, (.aload_n 0, 1)), (74, (.getfield 112, 3)), (77, (.iload_n 2, 1)), (78, (.iastore, 1)), (79, (.aload_n 0, 1)), (80, (.getfield 121, 3)), (83, (.aload_n 0, 1)), (84, (.getfield 112, 3)), (87, (.iload_n 3, 1)), (88, (.iastore, 1)), (89, (.aload_n 0, 1)), (90, (.dup, 1)), (91, (.getfield 112, 3)), (94, (.iconst 1, 1)), (95, (.iadd, 1)), (96, (.putfield 112, 3)), (99, (.aload_n 0, 1)), (100, (.getfield 112, 3)), (103, (.ireturn, 1))] := DL.of (by decide +kernel)
set_option maxRecDepth 20000 in
theorem dlX10_isSeen_0 : DL cX10_isSeen [(0, (.iconst 1, 1)), (1, (.istore_n 2, 1)), (2, (.iconst 0, 1)), (3, (.istore_n 3, 1)), (4, (.iload_n 3, 1)), (5, (.aload_n 0, 1)), (6, (.getfield 112, 3)), (9, (.if_icmp .ge 73, 3)), (12, (.iload_n 2, 1)), (13, (.ifCond .eq 69, 3)), (16, (.aload_n 0, 1)), (17, (.getfield 115, 3)), (20, (.iload_n 3, 1)), (21, (.iaload, 1)), (22, (.iload_n 1, 1)), (23, (.if_icmp .eq 6, 3)), (26, (.goto 50, 3)), (29, (.aload_n 0, 1)), (30, (.invokevirtual 321, 3)), (33, (.aload_n 0, 1)), (34, (.iload_n 1, 1)), (35, (.aload_n 0, 1)), (36, (.getfield 121, 3)), (39, (.iload_n 3, 1)), (40, (.iaload, 1)), (41, (.invokevirtual 338, 3)), (44, (.aload_n 0, 1)), (45, (.getfield 26, 3)), (48, (.iload_n 1, 1)), (49, (.iaload, 1)), (50, (.aload_n 0, 1)), (51, (.getfield 103, 3)), (54, (.iload_n 1, 1)), (55, (.iaload, 1)), (56, (.isub, 1)), (57, (.aload_n 0, 1)), (58, (.getfield 118, 3)), (61, (.iload_n 3, 1)), (62, (.iaload, 1)), (63, (.if_icmp .ne 7, 3))] := DL.of (by decide +kernel)
set_option maxRecDepth 20000 in
theorem dlX10_isSeen_1 : DL cX10_isSeen [(66, (.iconst 1, 1)), (67, (.goto 4, 3)), (70, (.iconst 0, 1)), (71, (.istore_n 2, 1)), (72, (.aload_n 0, 1)), (73, (.invokevirtual 324, 3)), (76, (.iinc 3 1, 3)), (79, (.goto (-75), 3)), (82, (.iload_n 2, 1)), (83, (.ireturn, 1))] := DL.of (by decide +kernel)
set_option maxRecDepth 20000 in
theorem dlX10_since_0 : DL cX10_since [(0, (.aload_n 0, 1)), (1, (.iload_n 1, 1)), (2, (.invokevirtual 220, 3)), (5, (.ifCond .eq 13, 3)), (8, (.aload_n 0, 1)), (9, (.iload_n 2, 1)), (10, (.iconst 0, 1)), (11, (.iconst 1, 1)), (12, (.invokevirtual 212, 3)), (15, (.ifCond .ne 5, 3)), (18, (.iconst (-1), 1)), (19, (.ireturn, 1)), (20, (.aload_n 0, 1)), (21, (.getfield 26, 3)), (24, (.iload_n 1, 1)), (25, (.iaload, 1)), (26, (.istore_n 3, 1)), (27, (.iconst 0, 1)), (28, (.istore 4, 2)), (30, (.bipush (-5), 2)), (32, (.istore 5, 2)), (34, (.aload_n 0, 1)), (35, (.getfield 16, 3)), (38, (.bipush 99, 2)), (40, (.if_icmp .ge 10, 3)), (43, (.aload_n 0, 1)), (44, (.getfield 16, 3)), (47, (.goto 5, 3)), (50, (.bipush 99, 2)), (52, (.istore 6, 2)), (54, (.iload 6, 2)), (56, (.ifCond .lt 40, 3)), (59, (.aload_n 0, 1)), (60, (.getfield 26, 3)), (63, (.iload_n 1, 1)), (64, (.aload_n 0, 1)), (65, (.getfield 16, 3)), (68, (.iload 6, 2)), (70, (.isub, 1)), (71, (.iastore, 1))] := DL.of (by decide +kernel)
set_option maxRecDepth 20000 in
theorem dlX10_since_1 : DL cX10_since [(72, (.aload_n 0, 1)), (73, (.iload_n 1, 1)), (74, (.invokevirtual 354, 3)), (77, (.ifCond .ne 6, 3)), (80, (.goto 10, 3)), (83, (.iinc 4 1, 3)), (86, (.iload 6, 2)), (88, (.istore 5, 2)), (90, (.iinc 6 (-1), 3)), (93, (.goto (-39), 3)), (96, (.aload_n 0, 1)), (97, (.getfield 26, 3)), (100, (.iload_n 1, 1)), (101, (.iload_n 3, 1)), (102, (.iastore, 1)), (103, (.iload_n 2, 1)), (104, (.ifCond .ne 8, 3)), (107, (.iload 4, 2)), (109, (.goto 5, 3)), (112, (.iload 5, 2)), (114, (.ireturn, 1))] := DL.of (by decide +kernel)
set_option maxRecDepth 20000 in
theorem dlX10_can_0 : DL cX10_can [(0, (.aload_n 0, 1)), (1, (.iload_n 1, 1)), (2, (.invokevirtual 220, 3)), (5, (.ifCond .eq 13, 3)), (8, (.aload_n 0, 1)), (9, (.iload_n 2, 1)), (10, (.iconst 0, 1)), (11, (.iconst 1, 1)), (12, (.invokevirtual 212, 3)), (15, (.ifCond .ne 5, 3)), (18, (.iconst (-1), 1)), (19, (.ireturn, 1)), (20, (.aload_n 0, 1)), (21, (.getfield 23, 3)), (24, (.iload_n 1, 1)), (25, (.iaload, 1)), (26, (.istore_n 3, 1)), (27, (.iconst 0, 1)), (28, (.istore 4, 2)), (30, (.bipush (-5), 2)), (32, (.istore 5, 2)), (34, (.bipush 9, 2)), (36, (.istore 6, 2)), (38, (.iload 6, 2)), (40, (.ifCond .lt 35, 3)), (43, (.aload_n 0, 1)), (44, (.getfield 23, 3)), (47, (.iload_n 1, 1)), (48, (.iload 6, 2)), (50, (.iastore, 1)), (51, (.aload_n 0, 1)), (52, (.iload_n 1, 1)), (53, (.invokevirtual 354, 3)), (56, (.ifCond .ne 6, 3)), (59, (.goto 10, 3)), (62, (.iinc 4 1, 3)), (65, (.iload 6, 2)), (67, (.istore 5, 2)), (69, (.iinc 6 (-1), 3)), (72, (.goto (-34), 3))] := DL.of (by decide +kernel)
set_option maxRecDepth 20000 in
theorem dlX10_can_1 : DL cX10_can [(75, (.aload_n 0, 1)), (76, (.getfield 23, 3)), (79, (.iload_n 1, 1)), (80, (.iload_n 3, 1)), (81, (.iastore, 1)), (82, (.iload_n 2, 1)), (83, (.ifCond .ne 8, 3)), (86, (.iload 4, 2)), (88, (.goto 5, 3)), (91, (.iload 5, 2)), (93, (.ireturn, 1))] := DL.of (by decide +kernel)
set_option maxRecDepth 20000 in
theorem dlX10_divisor_0 : DL cX10_divisor [(0, (.iload_n 1, 1)), (1, (.istore_n 3, 1)), (2, (.iload_n 2, 1)), (3, (.istore 4, 2)), (5, (.iload 4, 2)), (7, (.ifCond .eq 19, 3)), (10, (.iload_n 3, 1)), (11, (.iload 4, 2)), (13, (.irem, 1)), (14, (.istore 5, 2)), (16, (.iload 4, 2)), (18, (.istore_n 3, 1)), (19, (.iload 5, 2)), (21, (.istore 4, 2)), (23, (.goto (-18), 3)), (26, (.iload_n 3, 1)), (27, (.ireturn, 1))] := DL.of (by decide +kernel)
set_option maxRecDepth 20000 in
theorem dlX10_lowest_0 : DL cX10_lowest [(0, (.aload_n 0, 1)), (1, (.iload_n 1, 1)), (2, (.iload_n 2, 1)), (3, (.invokevirtual 357, 3)), (6, (.istore 4, 2)), (8, (.iload_n 3, 1)), (9, (.ifCond .ne 11, 3)), (12, (.iload_n 1, 1)), (13, (.iload 4, 2)), (15, (.idiv, 1)), (16, (.i2l, 1)), (17, (.goto 8, 3)), (20, (.iload_n 2, 1)), (21, (.iload 4, 2)), (23, (.idiv, 1)), (24, (.i2l, 1)), (25, (.lreturn, 1))] := DL.of (by decide +kernel)
set_option maxRecDepth 20000 in
theorem dlX10_odds_0 : DL cX10_odds [(0, (.aload_n 0, 1)), (1, (.iload_n 1, 1)), (2, (.invokevirtual 318, 3)), (5, (.ifCond .eq 20, 3)), (8, (.aload_n 0, 1)), (9, (.iload_n 2, 1)), (10, (.iconst 0, 1)), (11, (.iconst 1, 1)), (12, (.invokevirtual 212, 3)), (15, (.ifCond .eq 10, 3)), (18, (.aload_n 0, 1)), (19, (.getfield 7, 3)), (22, (.ifCond .ne 7, 3)), (25, (.ldc2_w 360, 3)), (28, (.lreturn, 1)), (29, (.iconst 0, 1)), (30, (.istore_n 3, 1)), (31, (.iconst 0, 1)), (32, (.istore 4, 2)), (34, (.iload 4, 2)), (36, (.aload_n 0, 1)), (37, (.getfield 7, 3)), (40, (.if_icmp .ge 41, 3)), (43, (.aload_n 0, 1)), (44, (.invokevirtual 321, 3)), (47, (.aload_n 0, 1)), (48, (.iload 4, 2)), (50, (.iload_n 1, 1)), (51, (.invokevirtual 338, 3)), (54, (.iload_n 3, 1)), (55, (.aload_n 0, 1)), (56, (.iload 4, 2)), (58, (.invokevirtual 300, 3)), (61, (.ifCond .eq 7, 3)), (64, (.iconst 1, 1)), (65, (.goto 4, 3)), (68, (.iconst 0, 1)), (69, (.iadd, 1)), (70, (.istore_n 3, 1)), (71, (.aload_n 0, 1))] := DL.of (by decide +kernel)
set_option maxRecDepth 20000 in
theorem dlX10_odds_1 : DL cX10_odds [(72, (.invokevirtual 324, 3)), (75, (.iinc 4 1, 3)), (78, (.goto (-44), 3)), (81, (.aload_n 0, 1)), (82, (.iload_n 3, 1)), (83, (.aload_n 0, 1)), (84, (.getfield 7, 3)), (87, (.iload_n 2, 1)), (88, (.invokevirtual 362, 3)), (91, (.lreturn, 1))] := DL.of (by decide +kernel)
set_option maxRecDepth 20000 in
theorem dlX10_mean_0 : DL cX10_mean [(0, (.aload_n 0, 1)), (1, (.iload_n 1, 1)), (2, (.iconst 0, 1)), (3, (.iconst 1, 1)), (4, (.invokevirtual 212, 3)), (7, (.ifCond .eq 26, 3)), (10, (.aload_n 0, 1)), (11, (.getfield 7, 3)), (14, (.ifCond .le 19, 3)), (17, (.aload_n 0, 1)), (18, (.aload_n 0, 1)), (19, (.invokevirtual 335, 3)), (22, (.aload_n 0, 1)), (23, (.getfield 7, 3)), (26, (.iload_n 1, 1)), (27, (.invokevirtual 362, 3)), (30, (.goto 6, 3)), (33, (.ldc2_w 360, 3)), (36, (.lreturn, 1))] := DL.of (by decide +kernel)
set_option maxRecDepth 20000 in
theorem dlX10_month_0 : DL cX10_month [(0, (.iload_n 1, 1)), (1, (.iconst (-1), 1)), (2, (.if_icmp .ne 10, 3)), (5, (.aload_n 0, 1)), (6, (.iconst 0, 1)), (7, (.putfield 124, 3)), (10, (.iconst 0, 1)), (11, (.ireturn, 1)), (12, (.iload_n 1, 1)), (13, (.bipush 6, 2)), (15, (.if_icmp .eq 13, 3)), (18, (.aload_n 0, 1)), (19, (.iload_n 1, 1)), (20, (.invokevirtual 220, 3)), (23, (.ifCond .ne 5, 3)), (26, (.iconst (-1), 1)), (27, (.ireturn, 1)), (28, (.aload_n 0, 1)), (29, (.getfield 124, 3)), (32, (.bipush 10, 2)), (34, (.if_icmp .ne 6, 3)), (37, (.bipush (-4), 2)), (39, (.ireturn, 1)), (40, (.aload_n 0, 1)), (41, (.getfield 130, 3)), (44, (.aload_n 0, 1)), (45, (.getfield 124, 3)), (48, (.iload_n 1, 1)), (49, (.iastore, 1)), (50, (.aload_n 0, 1)), (51, (.dup, 1)), (52, (.getfield 124, 3)), (55, (.iconst 1, 1)), (56, (.iadd, 1)), (57, (.putfield 124, 3)), (60, (.aload_n 0, 1)), (61, (.getfield 124, 3)), (64, (.ireturn, 1))] := DL.of (by decide +kernel)
set_option maxRecDepth 20000 in
theorem dlX10_ends_0 : DL cX10_ends [(0, (.aload_n 0, 1)), (1, (.iload_n 1, 1)), (2, (.iconst 0, 1)), (3, (.iconst 1, 1)), (4, (.invokevirtual 212, 3)), (7, (.ifCond .ne 5, 3)), (10, (.iconst (-1), 1)), (11, (.ireturn, 1)), (12, (.aload_n 0, 1)), (13, (.invokevirtual 321, 3)), (16, (.iconst 0, 1)), (17, (.istore_n 2, 1)), (18, (.iload_n 2, 1)), (19, (.aload_n 0, 1)), (20, (.getfield 124, 3)), (23, (.if_icmp .ge 38, 3)), (26, (.aload_n 0, 1)), (27, (.getfield 130, 3)), (30, (.iload_n 2, 1)), (31, (.iaload, 1)), (32, (.bipush 6, 2)), (34, (.if_icmp .ne 10, 3)), (37, (.aload_n 0, 1)), (38, (.invokevirtual 312, 3)), (41, (.goto 14, 3)), (44, (.aload_n 0, 1)), (45, (.aload_n 0, 1)), (46, (.getfield 130, 3)), (49, (.iload_n 2, 1)), (50, (.iaload, 1)), (51, (.invokevirtual 315, 3)), (54, (.pop, 1)), (55, (.iinc 2 1, 3)), (58, (.goto (-40), 3)), (61, (.iload_n 1, 1)), (62, (.ifCond .ne 10, 3)), (65, (.aload_n 0, 1)), (66, (.invokevirtual 332, 3)), (69, (.goto 7, 3)), (72, (.aload_n 0, 1))] := DL.of (by decide +kernel)
set_option maxRecDepth 20000 in
theorem dlX10_ends_1 : DL cX10_ends [(73, (.invokevirtual 335, 3)), (76, (.istore_n 2, 1)), (77, (.aload_n 0, 1)), (78, (.invokevirtual 324, 3)), (81, (.iload_n 2, 1)), (82, (.ireturn, 1))] := DL.of (by decide +kernel)
set_option maxRecDepth 20000 in
theorem dlX10_book_0 : DL cX10_book [(0, (.iload_n 1, 1)), (1, (.iconst (-1), 1)), (2, (.if_icmp .ne 10, 3)), (5, (.aload_n 0, 1)), (6, (.iconst 0, 1)), (7, (.putfield 127, 3)), (10, (.iconst 0, 1)), (11, (.ireturn, 1)), (12, (.aload_n 0, 1)), (13, (.iload_n 1, 1)), (14, (.invokevirtual 220, 3)), (17, (.ifCond .ne 5, 3)), (20, (.iconst (-1), 1)), (21, (.ireturn, 1)), (22, (.aload_n 0, 1)), (23, (.iload_n 2, 1)), (24, (.invokevirtual 291, 3)), (27, (.ifCond .ne 6, 3)), (30, (.bipush (-2), 2)), (32, (.ireturn, 1)), (33, (.aload_n 0, 1)), (34, (.getfield 127, 3)), (37, (.bipush 8, 2)), (39, (.if_icmp .ne 6, 3)), (42, (.bipush (-4), 2)), (44, (.ireturn, 1)), (45, (.aload_n 0, 1)), (46, (.getfield 133, 3)), (49, (.aload_n 0, 1)), (50, (.getfield 127, 3)), (53, (.iload_n 1, 1)), (54, (.iastore, 1)), (55, (.aload_n 0, 1)), (56, (.getfield 136, 3)), (59, (.aload_n 0, 1)), (60, (.getfield 127, 3)), (63, (.iload_n 2, 1)), (64, (.iastore, 1)), (65, (.aload_n 0, 1)), (66, (.dup, 1))] := DL.of (by decide +kernel)
set_option maxRecDepth 20000 in
theorem dlX10_book_1 : DL cX10_book [(67, (.getfield 127, 3)), (70, (.iconst 1, 1)), (71, (.iadd, 1)), (72, (.putfield 127, 3)), (75, (.aload_n 0, 1)), (76, (.getfield 127, 3)), (79, (.ireturn, 1))] := DL.of (by decide +kernel)
set_option maxRecDepth 20000 in
theorem dlX10_looked_0 : DL cX10_looked [(0, (.iconst 0, 1)), (1, (.istore_n 1, 1)), (2, (.iload_n 1, 1)), (3, (.aload_n 0, 1)), (4, (.getfield 127, 3)), (7, (.if_icmp .ge 31, 3)), (10, (.aload_n 0, 1)), (11, (.getfield 26, 3)), (14, (.aload_n 0, 1)), (15, (.getfield 133, 3)), (18, (.iload_n 1, 1)), (19, (.iaload, 1)), (20, (.iaload, 1)), (21, (.aload_n 0, 1)), (22, (.getfield 136, 3)), (25, (.iload_n 1, 1)), (26, (.iaload, 1)), (27, (.if_icmp .eq 5, 3)), (30, (.iload_n 1, 1)), (31, (.ireturn, 1)), (32, (.iinc 1 1, 3)), (35, (.goto (-33), 3)), (38, (.bipush (-5), 2)), (40, (.ireturn, 1))] := DL.of (by decide +kernel)
set_option maxRecDepth 20000 in
theorem dlX10_judge_0 : DL cX10_judge [(0, (.aload_n 0, 1)), (1, (.iload_n 1, 1)), (2, (.invokevirtual 366, 3)), (5, (.ifCond .ne 5, 3)), (8, (.iconst (-1), 1)), (9, (.ireturn, 1)), (10, (.aload_n 0, 1)), (11, (.getfield 199, 3)), (14, (.iload_n 1, 1)), (15, (.iaload, 1)), (16, (.ifCond .lt 16, 3)), (19, (.aload_n 0, 1)), (20, (.getfield 199, 3)), (23, (.iload_n 1, 1)), (24, (.iaload, 1)), (25, (.iconst 1, 1)), (26, (.if_icmp .eq 6, 3)), (29, (.bipush (-12), 2)), (31, (.ireturn, 1)), (32, (.iconst 0, 1)), (33, (.istore_n 3, 1)), (34, (.iload_n 3, 1)), (35, (.aload_n 0, 1)), (36, (.getfield 7, 3)), (39, (.if_icmp .ge 67, 3)), (42, (.aload_n 0, 1)), (43, (.getfield 199, 3)), (46, (.iload_n 1, 1)), (47, (.iaload, 1)), (48, (.ifCond .lt 21, 3)), (51, (.iload_n 2, 1)), (52, (.ifCond .lt 17, 3)), (55, (.iload_n 2, 1)), (56, (.aload_n 0, 1)), (57, (.getfield 202, 3)), (60, (.iload_n 1, 1)), (61, (.iaload, 1)), (62, (.iload_n 3, 1)), (63, (.isub, 1)), (64, (.iconst 1, 1))] := DL.of (by decide +kernel)
set_option maxRecDepth 20000 in
theorem dlX10_judge_1 : DL cX10_judge [(65, (.isub, 1)), (66, (.if_icmp .le 8, 3)), (69, (.bipush 100, 2)), (71, (.iload_n 3, 1)), (72, (.iadd, 1)), (73, (.ireturn, 1)), (74, (.aload_n 0, 1)), (75, (.getfield 205, 3)), (78, (.bipush 60, 2)), (80, (.iload_n 1, 1)), (81, (.imul, 1)), (82, (.iload_n 2, 1)), (83, (.iadd, 1)), (84, (.iload_n 3, 1)), (85, (.iadd, 1)), (86, (.laload, 1)), (87, (.aload_n 0, 1)), (88, (.getfield 26, 3)), (91, (.iload_n 3, 1)), (92, (.iaload, 1)), (93, (.i2l, 1)), (94, (.lcmp, 1)), (95, (.ifCond .eq 5, 3)), (98, (.iload_n 3, 1)), (99, (.ireturn, 1)), (100, (.iinc 3 1, 3)), (103, (.goto (-69), 3)), (106, (.bipush (-5), 2)), (108, (.ireturn, 1))] := DL.of (by decide +kernel)
set_option maxRecDepth 20000 in
theorem dlX10_image_0 : DL cX10_image [(0, (.aload_n 0, 1)), (1, (.iconst 1, 1)), (2, (.putfield 139, 3)), (5, (.aload_n 0, 1)), (6, (.aload_n 0, 1)), (7, (.getfield 35, 3)), (10, (.putfield 142, 3)), (13, (.aload_n 0, 1)), (14, (.aload_n 0, 1)), (15, (.getfield 7, 3)), (18, (.putfield 145, 3)), (21, (.aload_n 0, 1)), (22, (.aload_n 0, 1)), (23, (.getfield 13, 3)), (26, (.putfield 148, 3)), (29, (.aload_n 0, 1)), (30, (.aload_n 0, 1)), (31, (.getfield 16, 3)), (34, (.putfield 151, 3)), (37, (.aload_n 0, 1)), (38, (.aload_n 0, 1)), (39, (.getfield 112, 3)), (42, (.putfield 154, 3)), (45, (.aload_n 0, 1)), (46, (.aload_n 0, 1)), (47, (.getfield 124, 3)), (50, (.putfield 157, 3)), (53, (.aload_n 0, 1)), (54, (.aload_n 0, 1)), (55, (.getfield 127, 3)), (58, (.putfield 160, 3)), (61, (.iconst 0, 1)), (62, (.istore_n 1, 1)), (63, (.iload_n 1, 1)), (64, (.bipush 6, 2)), (66, (.if_icmp .ge 45, 3)), (69, (.aload_n 0, 1)), (70, (.getfield 163, 3)), (73, (.iload_n 1, 1)), (74, (.aload_n 0, 1))] := DL.of (by decide +kernel)
set_option maxRecDepth 20000 in
theorem dlX10_image_1 : DL cX10_image [(75, (.getfield 19, 3)), (78, (.iload_n 1, 1)), (79, (.iaload, 1)), (80, (.iastore, 1)), (81, (.aload_n 0, 1)), (82, (.getfield 166, 3)), (85, (.iload_n 1, 1)), (86, (.aload_n 0, 1)), (87, (.getfield 23, 3)), (90, (.iload_n 1, 1)), (91, (.iaload, 1)), (92, (.iastore, 1)), (93, (.aload_n 0, 1)), (94, (.getfield 169, 3)), (97, (.iload_n 1, 1)), (98, (.aload_n 0, 1)), (99, (.getfield 26, 3)), (102, (.iload_n 1, 1)), (103, (.iaload, 1)), (104, (.iastore, 1)), (105, (.iinc 1 1, 3)), (108, (.goto (-45), 3)), (111, (.iconst 0, 1)), (112, (.istore_n 1, 1)), (113, (.iload_n 1, 1)), (114, (.bipush 24, 2)), (116, (.if_icmp .ge 21, 3)), (119, (.aload_n 0, 1)), (120, (.getfield 172, 3)), (123, (.iload_n 1, 1)), (124, (.aload_n 0, 1)), (125, (.getfield 29, 3)), (128, (.iload_n 1, 1)), (129, (.iaload, 1)), (130, (.iastore, 1)), (131, (.iinc 1 1, 3)), (134, (.goto (-21), 3)), (137, (.iconst 0, 1)), (138, (.istore_n 1, 1)), (139, (.iload_n 1, 1))] := DL.of (by decide +kernel)
set_option maxRecDepth 20000 in
theorem dlX10_image_2 : DL cX10_image [(140, (.iconst 5, 1)), (141, (.if_icmp .ge 45, 3)), (144, (.aload_n 0, 1)), (145, (.getfield 175, 3)), (148, (.iload_n 1, 1)), (149, (.aload_n 0, 1)), (150, (.getfield 115, 3)), (153, (.iload_n 1, 1)), (154, (.iaload, 1)), (155, (.iastore, 1)), (156, (.aload_n 0, 1)), (157, (.getfield 178, 3)), (160, (.iload_n 1, 1)), (161, (.aload_n 0, 1)), (162, (.getfield 118, 3)), (165, (.iload_n 1, 1)), (166, (.iaload, 1)), (167, (.iastore, 1)), (168, (.aload_n 0, 1)), (169, (.getfield 181, 3)), (172, (.iload_n 1, 1)), (173, (.aload_n 0, 1)), (174, (.getfield 121, 3)), (177, (.iload_n 1, 1)), (178, (.iaload, 1)), (179, (.iastore, 1)), (180, (.iinc 1 1, 3)), (183, (.goto (-44), 3)), (186, (.iconst 0, 1)), (187, (.istore_n 1, 1)), (188, (.iload_n 1, 1)), (189, (.bipush 10, 2)), (191, (.if_icmp .ge 21, 3)), (194, (.aload_n 0, 1)), (195, (.getfield 184, 3)), (198, (.iload_n 1, 1)), (199, (.aload_n 0, 1)), (200, (.getfield 130, 3)), (203, (.iload_n 1, 1)), (204, (.iaload, 1))] := DL.of (by decide +kernel)
set_option maxRecDepth 20000 in
theorem dlX10_image_3 : DL cX10_image [(205, (.iastore, 1)), (206, (.iinc 1 1, 3)), (209, (.goto (-21), 3)), (212, (.iconst 0, 1)), (213, (.istore_n 1, 1)), (214, (.iload_n 1, 1)), (215, (.bipush 8, 2)), (217, (.if_icmp .ge 33, 3)), (220, (.aload_n 0, 1)), (221, (.getfield 187, 3)), (224, (.iload_n 1, 1)), (225, (.aload_n 0, 1)), (226, (.getfield 133, 3)), (229, (.iload_n 1, 1)), (230, (.iaload, 1)), (231, (.iastore, 1)), (232, (.aload_n 0, 1)), (233, (.getfield 190, 3)), (236, (.iload_n 1, 1)), (237, (.aload_n 0, 1)), (238, (.getfield 136, 3)), (241, (.iload_n 1, 1)), (242, (.iaload, 1)), (243, (.iastore, 1)), (244, (.iinc 1 1, 3)), (247, (.goto (-33), 3)), (250, (.aload_n 0, 1)), (251, (.getfield 7, 3)), (254, (.ireturn, 1))] := DL.of (by decide +kernel)
set_option maxRecDepth 20000 in
theorem dlX10_undo_0 : DL cX10_undo [(0, (.aload_n 0, 1)), (1, (.getfield 139, 3)), (4, (.ifCond .ne 6, 3)), (7, (.bipush (-3), 2)), (9, (.ireturn, 1)), (10, (.aload_n 0, 1)), (11, (.aload_n 0, 1)), (12, (.getfield 142, 3)), (15, (.putfield 35, 3)), (18, (.aload_n 0, 1)), (19, (.aload_n 0, 1)), (20, (.getfield 145, 3)), (23, (.putfield 7, 3)), (26, (.aload_n 0, 1)), (27, (.aload_n 0, 1)), (28, (.getfield 148, 3)), (31, (.putfield 13, 3)), (34, (.aload_n 0, 1)), (35, (.aload_n 0, 1)), (36, (.getfield 151, 3)), (39, (.putfield 16, 3)), (42, (.aload_n 0, 1)), (43, (.aload_n 0, 1)), (44, (.getfield 154, 3)), (47, (.putfield 112, 3)), (50, (.aload_n 0, 1)), (51, (.aload_n 0, 1)), (52, (.getfield 157, 3)), (55, (.putfield 124, 3)), (58, (.aload_n 0, 1)), (59, (.aload_n 0, 1)), (60, (.getfield 160, 3)), (63, (.putfield 127, 3)), (66, (.iconst 0, 1)), (67, (.istore_n 1, 1)), (68, (.iload_n 1, 1)), (69, (.bipush 6, 2)), (71, (.if_icmp .ge 45, 3)), (74, (.aload_n 0, 1)), (75, (.getfield 19, 3))] := DL.of (by decide +kernel)
set_option maxRecDepth 20000 in
theorem dlX10_undo_1 : DL cX10_undo [(78, (.iload_n 1, 1)), (79, (.aload_n 0, 1)), (80, (.getfield 163, 3)), (83, (.iload_n 1, 1)), (84, (.iaload, 1)), (85, (.iastore, 1)), (86, (.aload_n 0, 1)), (87, (.getfield 23, 3)), (90, (.iload_n 1, 1)), (91, (.aload_n 0, 1)), (92, (.getfield 166, 3)), (95, (.iload_n 1, 1)), (96, (.iaload, 1)), (97, (.iastore, 1)), (98, (.aload_n 0, 1)), (99, (.getfield 26, 3)), (102, (.iload_n 1, 1)), (103, (.aload_n 0, 1)), (104, (.getfield 169, 3)), (107, (.iload_n 1, 1)), (108, (.iaload, 1)), (109, (.iastore, 1)), (110, (.iinc 1 1, 3)), (113, (.goto (-45), 3)), (116, (.iconst 0, 1)), (117, (.istore_n 1, 1)), (118, (.iload_n 1, 1)), (119, (.bipush 24, 2)), (121, (.if_icmp .ge 21, 3)), (124, (.aload_n 0, 1)), (125, (.getfield 29, 3)), (128, (.iload_n 1, 1)), (129, (.aload_n 0, 1)), (130, (.getfield 172, 3)), (133, (.iload_n 1, 1)), (134, (.iaload, 1)), (135, (.iastore, 1)), (136, (.iinc 1 1, 3)), (139, (.goto (-21), 3)), (142, (.iconst 0, 1))] := DL.of (by decide +kernel)
set_option maxRecDepth 20000 in
theorem dlX10_undo_2 : DL cX10_undo [(143, (.istore_n 1, 1)), (144, (.iload_n 1, 1)), (145, (.iconst 5, 1)), (146, (.if_icmp .ge 45, 3)), (149, (.aload_n 0, 1)), (150, (.getfield 115, 3)), (153, (.iload_n 1, 1)), (154, (.aload_n 0, 1)), (155, (.getfield 175, 3)), (158, (.iload_n 1, 1)), (159, (.iaload, 1)), (160, (.iastore, 1)), (161, (.aload_n 0, 1)), (162, (.getfield 118, 3)), (165, (.iload_n 1, 1)), (166, (.aload_n 0, 1)), (167, (.getfield 178, 3)), (170, (.iload_n 1, 1)), (171, (.iaload, 1)), (172, (.iastore, 1)), (173, (.aload_n 0, 1)), (174, (.getfield 121, 3)), (177, (.iload_n 1, 1)), (178, (.aload_n 0, 1)), (179, (.getfield 181, 3)), (182, (.iload_n 1, 1)), (183, (.iaload, 1)), (184, (.iastore, 1)), (185, (.iinc 1 1, 3)), (188, (.goto (-44), 3)), (191, (.iconst 0, 1)), (192, (.istore_n 1, 1)), (193, (.iload_n 1, 1)), (194, (.bipush 10, 2)), (196, (.if_icmp .ge 21, 3)), (199, (.aload_n 0, 1)), (200, (.getfield 130, 3)), (203, (.iload_n 1, 1)), (204, (.aload_n 0, 1)), (205, (.getfield 184, 3))] := DL.of (by decide +kernel)
set_option maxRecDepth 20000 in
theorem dlX10_undo_3 : DL cX10_undo [(208, (.iload_n 1, 1)), (209, (.iaload, 1)), (210, (.iastore, 1)), (211, (.iinc 1 1, 3)), (214, (.goto (-21), 3)), (217, (.iconst 0, 1)), (218, (.istore_n 1, 1)), (219, (.iload_n 1, 1)), (220, (.bipush 8, 2)), (222, (.if_icmp .ge 33, 3)), (225, (.aload_n 0, 1)), (226, (.getfield 133, 3)), (229, (.iload_n 1, 1)), (230, (.aload_n 0, 1)), (231, (.getfield 187, 3)), (234, (.iload_n 1, 1)), (235, (.iaload, 1)), (236, (.iastore, 1)), (237, (.aload_n 0, 1)), (238, (.getfield 136, 3)), (241, (.iload_n 1, 1)), (242, (.aload_n 0, 1)), (243, (.getfield 190, 3)), (246, (.iload_n 1, 1)), (247, (.iaload, 1)), (248, (.iastore, 1)), (249, (.iinc 1 1, 3)), (252, (.goto (-33), 3)), (255, (.aload_n 0, 1)), (256, (.getfield 7, 3)), (259, (.ireturn, 1))] := DL.of (by decide +kernel)
set_option maxRecDepth 20000 in
theorem dlX10_body_0 : DL cX10_body [(0, (.aload_n 0, 1)), (1, (.getfield 193, 3)), (4, (.bipush 20, 2)), (6, (.if_icmp .ge 13, 3)), (9, (.aload_n 0, 1)), (10, (.getfield 196, 3)), (13, (.aload_n 0, 1)), (14, (.getfield 193, 3)), (17, (.iload_n 1, 1)), (18, (.iastore, 1)), (19, (.aload_n 0, 1)), (20, (.dup, 1)), (21, (.getfield 193, 3)), (24, (.iconst 1, 1)), (25, (.iadd, 1)), (26, (.putfield 193, 3)), (29, (.return_, 1))] := DL.of (by decide +kernel)
set_option maxRecDepth 20000 in
theorem dlX10_clockTicks_0 : DL cX10_clockTicks [(0, (.aload_n 0, 1)), (1, (.bipush 10, 2)), (3, (.invokevirtual 369, 3)), (6, (.iload_n 2, 1)), (7, (.iload_n 1, 1)), (8, (.iadd, 1)), (9, (.ireturn, 1))] := DL.of (by decide +kernel)
set_option maxRecDepth 20000 in
theorem dlX10_ticksAct_0 : DL cX10_ticksAct [(0, (.aload_n 0, 1)), (1, (.getfield 19, 3)), (4, (.iload_n 1, 1)), (5, (.iaload, 1)), (6, (.tableswitch 83 2 6 #[34, 83, 49, 34, 63], 34)), (40, (.aload_n 0, 1)), (41, (.bipush 30, 2)), (43, (.invokevirtual 369, 3)), (46, (.aload_n 0, 1)), (47, (.iload_n 1, 1)), (48, (.iload_n 2, 1)), (49, (.iconst 3, 1)), (50, (.imul, 1)), (51, (.invokevirtual 372, 3)), (54, (.ireturn, 1)), (55, (.aload_n 0, 1)), (56, (.bipush 50, 2)), (58, (.invokevirtual 369, 3)), (61, (.aload_n 0, 1)), (62, (.iload_n 1, 1)), (63, (.iload_n 2, 1)), (64, (.invokevirtual 372, 3)), (67, (.ineg, 1)), (68, (.ireturn, 1)), (69, (.aload_n 0, 1)), (70, (.bipush 71, 2)), (72, (.invokevirtual 369, 3)), (75, (.aload_n 0, 1)), (76, (.iload_n 1, 1)), (77, (.iload_n 2, 1)), (78, (.invokevirtual 372, 3)), (81, (.aload_n 0, 1)), (82, (.getfield 23, 3)), (85, (.iload_n 1, 1)), (86, (.iaload, 1)), (87, (.ixor, 1)), (88, (.ireturn, 1)), (89, (.aload_n 0, 1)), (90, (.iload_n 1, 1)), (91, (.iload_n 2, 1))] := DL.of (by decide +kernel)
set_option maxRecDepth 20000 in
theorem dlX10_ticksAct_1 : DL cX10_ticksAct [(92, (.invokevirtual 372, 3)), (95, (.ireturn, 1))] := DL.of (by decide +kernel)
set_option maxRecDepth 20000 in
theorem dlX10_clockStrikes_0 : DL cX10_clockStrikes [(0, (.aload_n 0, 1)), (1, (.bipush 11, 2)), (3, (.invokevirtual 369, 3)), (6, (.aload_n 0, 1)), (7, (.iload_n 1, 1)), (8, (.iload_n 2, 1)), (9, (.invokevirtual 375, 3)), (12, (.aload_n 0, 1)), (13, (.getfield 23, 3)), (16, (.iload_n 1, 1)), (17, (.iaload, 1)), (18, (.isub, 1)), (19, (.ireturn, 1))] := DL.of (by decide +kernel)
set_option maxRecDepth 20000 in
theorem dlX10_fastStrikes_0 : DL cX10_fastStrikes [(0, (.aload_n 0, 1)), (1, (.bipush 20, 2)), (3, (.invokevirtual 369, 3)), (6, (.aload_n 0, 1)), (7, (.iload_n 1, 1)), (8, (.iload_n 2, 1)), (9, (.invokevirtual 378, 3)), (12, (.bipush 6, 2)), (14, (.ixor, 1)), (15, (.ireturn, 1))] := DL.of (by decide +kernel)
set_option maxRecDepth 20000 in
theorem dlX10_strikesAct_0 : DL cX10_strikesAct [(0, (.aload_n 0, 1)), (1, (.getfield 19, 3)), (4, (.iload_n 1, 1)), (5, (.iaload, 1)), (6, (.lookupswitch 78 #[(1, 34), (4, 41), (6, 56)], 34)), (40, (.aload_n 0, 1)), (41, (.iload_n 1, 1)), (42, (.iload_n 2, 1)), (43, (.invokevirtual 381, 3)), (46, (.ireturn, 1)), (47, (.aload_n 0, 1)), (48, (.bipush 51, 2)), (50, (.invokevirtual 369, 3)), (53, (.aload_n 0, 1)), (54, (.iload_n 1, 1)), (55, (.iload_n 2, 1)), (56, (.iconst 1, 1)), (57, (.iadd, 1)), (58, (.invokevirtual 381, 3)), (61, (.ireturn, 1)), (62, (.aload_n 0, 1)), (63, (.bipush 70, 2)), (65, (.invokevirtual 369, 3)), (68, (.aload_n 0, 1)), (69, (.iload_n 1, 1)), (70, (.iload_n 2, 1)), (71, (.invokevirtual 378, 3)), (74, (.istore_n 3, 1)), (75, (.iload_n 3, 1)), (76, (.aload_n 0, 1)), (77, (.iload_n 1, 1)), (78, (.iconst 2, 1)), (79, (.invokevirtual 372, 3)), (82, (.iadd, 1)), (83, (.ireturn, 1)), (84, (.aload_n 0, 1)), (85, (.iload_n 1, 1)), (86, (.iload_n 2, 1)), (87, (.invokevirtual 378, 3)), (90, (.ireturn, 1))] := DL.of (by decide +kernel)
set_option maxRecDepth 20000 in
theorem dlX10_clockTells_0 : DL cX10_clockTells [(0, (.aload_n 0, 1)), (1, (.bipush 12, 2)), (3, (.invokevirtual 369, 3)), (6, (.aload_n 0, 1)), (7, (.iload_n 1, 1)), (8, (.iload_n 2, 1)), (9, (.invokevirtual 384, 3)), (12, (.iconst 2, 1)), (13, (.imul, 1)), (14, (.ireturn, 1))] := DL.of (by decide +kernel)
set_option maxRecDepth 20000 in
theorem dlX10_tellsAct_0 : DL cX10_tellsAct [(0, (.aload_n 0, 1)), (1, (.getfield 19, 3)), (4, (.iload_n 1, 1)), (5, (.iaload, 1)), (6, (.tableswitch 67 3 6 #[30, 67, 52, 30], 30)), (36, (.aload_n 0, 1)), (37, (.bipush 40, 2)), (39, (.invokevirtual 369, 3)), (42, (.aload_n 0, 1)), (43, (.iload_n 1, 1)), (44, (.iload_n 2, 1)), (45, (.invokevirtual 387, 3)), (48, (.istore_n 3, 1)), (49, (.iload_n 3, 1)), (50, (.aload_n 0, 1)), (51, (.iload_n 1, 1)), (52, (.iconst 1, 1)), (53, (.invokevirtual 384, 3)), (56, (.iadd, 1)), (57, (.ireturn, 1)), (58, (.aload_n 0, 1)), (59, (.bipush 60, 2)), (61, (.invokevirtual 369, 3)), (64, (.aload_n 0, 1)), (65, (.iload_n 1, 1)), (66, (.iload_n 2, 1)), (67, (.iload_n 1, 1)), (68, (.isub, 1)), (69, (.invokevirtual 387, 3)), (72, (.ireturn, 1)), (73, (.aload_n 0, 1)), (74, (.iload_n 1, 1)), (75, (.iload_n 2, 1)), (76, (.invokevirtual 387, 3)), (79, (.ireturn, 1))] := DL.of (by decide +kernel)
set_option maxRecDepth 20000 in
theorem dlX10_act_0 : DL cX10_act [(0, (.aload_n 0, 1)), (1, (.iconst 0, 1)), (2, (.putfield 193, 3)), (5, (.aload_n 0, 1)), (6, (.iload_n 1, 1)), (7, (.invokevirtual 220, 3)), (10, (.ifCond .eq 13, 3)), (13, (.aload_n 0, 1)), (14, (.iload_n 2, 1)), (15, (.iconst 0, 1)), (16, (.iconst 2, 1)), (17, (.invokevirtual 212, 3)), (20, (.ifCond .ne 5, 3)), (23, (.iconst 0, 1)), (24, (.ireturn, 1)), (25, (.iload_n 2, 1)), (26, (.ifCond .ne 12, 3)), (29, (.aload_n 0, 1)), (30, (.iload_n 1, 1)), (31, (.iload_n 3, 1)), (32, (.invokevirtual 375, 3)), (35, (.goto 23, 3)), (38, (.iload_n 2, 1)), (39, (.iconst 1, 1)), (40, (.if_icmp .ne 12, 3)), (43, (.aload_n 0, 1)), (44, (.iload_n 1, 1)), (45, (.iload_n 3, 1)), (46, (.invokevirtual 384, 3)), (49, (.goto 9, 3)), (52, (.aload_n 0, 1)), (53, (.iload_n 1, 1)), (54, (.iload_n 3, 1)), (55, (.invokevirtual 390, 3)), (58, (.ireturn, 1))] := DL.of (by decide +kernel)
set_option maxRecDepth 20000 in
theorem dlX10_trace_0 : DL cX10_trace [(0, (.aload_n 0, 1)), (1, (.iload_n 1, 1)), (2, (.iconst 0, 1)), (3, (.bipush 19, 2)), (5, (.invokevirtual 212, 3)), (8, (.ifCond .eq 20, 3)), (11, (.iload_n 1, 1)), (12, (.aload_n 0, 1)), (13, (.getfield 193, 3)), (16, (.if_icmp .ge 12, 3)), (19, (.aload_n 0, 1)), (20, (.getfield 196, 3)), (23, (.iload_n 1, 1)), (24, (.iaload, 1)), (25, (.goto 4, 3)), (28, (.iconst (-1), 1)), (29, (.ireturn, 1))] := DL.of (by decide +kernel)
set_option maxRecDepth 20000 in
theorem dlX10_taken_0 : DL cX10_taken [(0, (.aload_n 0, 1)), (1, (.iload_n 2, 1)), (2, (.iconst 0, 1)), (3, (.bipush 6, 2)), (5, (.invokevirtual 212, 3)), (8, (.ifCond .ne 6, 3)), (11, (.bipush (-2), 2)), (13, (.ireturn, 1)), (14, (.aload_n 0, 1)), (15, (.iload_n 1, 1)), (16, (.invokevirtual 220, 3)), (19, (.ifCond .ne 6, 3)), (22, (.bipush (-11), 2)), (24, (.ireturn, 1)), (25, (.aload_n 0, 1)), (26, (.getfield 19, 3)), (29, (.iload_n 1, 1)), (30, (.iaload, 1)), (31, (.istore_n 3, 1)), (32, (.iload_n 2, 1)), (33, (.ifCond .eq 39, 3)), (36, (.iload_n 3, 1)), (37, (.iload_n 2, 1)), (38, (.if_icmp .eq 34, 3)), (41, (.iload_n 2, 1)), (42, (.iconst 1, 1)), (43, (.if_icmp .ne 8, 3)), (46, (.iload_n 3, 1)), (47, (.iconst 4, 1)), (48, (.if_icmp .eq 24, 3)), (51, (.iload_n 2, 1)), (52, (.iconst 2, 1)), (53, (.if_icmp .ne 8, 3)), (56, (.iload_n 3, 1)), (57, (.iconst 5, 1)), (58, (.if_icmp .eq 14, 3)), (61, (.iload_n 2, 1)), (62, (.iconst 3, 1)), (63, (.if_icmp .ne 13, 3)), (66, (.iload_n 3, 1))] := DL.of (by decide +kernel)
set_option maxRecDepth 20000 in
theorem dlX10_taken_1 : DL cX10_taken [(67, (.bipush 6, 2)), (69, (.if_icmp .ne 7, 3)), (72, (.iload_n 3, 1)), (73, (.goto 5, 3)), (76, (.bipush (-12), 2)), (78, (.ireturn, 1))] := DL.of (by decide +kernel)
set_option maxRecDepth 20000 in
theorem dlX10_count_0 : DL cX10_count [(0, (.iload_n 1, 1)), (1, (.tableswitch 78 0 6 #[43, 48, 53, 58, 63, 68, 73], 43)), (44, (.aload_n 0, 1)), (45, (.getfield 7, 3)), (48, (.ireturn, 1)), (49, (.aload_n 0, 1)), (50, (.getfield 32, 3)), (53, (.ireturn, 1)), (54, (.aload_n 0, 1)), (55, (.getfield 112, 3)), (58, (.ireturn, 1)), (59, (.aload_n 0, 1)), (60, (.getfield 124, 3)), (63, (.ireturn, 1)), (64, (.aload_n 0, 1)), (65, (.getfield 127, 3)), (68, (.ireturn, 1)), (69, (.aload_n 0, 1)), (70, (.getfield 38, 3)), (73, (.ireturn, 1)), (74, (.aload_n 0, 1)), (75, (.getfield 193, 3)), (78, (.ireturn, 1)), (79, (.bipush (-2), 2)), (81, (.ireturn, 1))] := DL.of (by decide +kernel)
set_option maxRecDepth 20000 in
theorem dlX10_isTape_0 : DL cX10_isTape [(0, (.aload_n 0, 1)), (1, (.iload_n 1, 1)), (2, (.iconst 0, 1)), (3, (.iconst 5, 1)), (4, (.invokevirtual 212, 3)), (7, (.ireturn, 1))] := DL.of (by decide +kernel)
set_option maxRecDepth 20000 in
theorem dlX10_tape_0 : DL cX10_tape [(0, (.aload_n 0, 1)), (1, (.iload_n 1, 1)), (2, (.invokevirtual 366, 3)), (5, (.ifCond .ne 5, 3)), (8, (.iconst (-1), 1)), (9, (.ireturn, 1)), (10, (.aload_n 0, 1)), (11, (.iload_n 2, 1)), (12, (.iconst (-1), 1)), (13, (.iconst 4, 1)), (14, (.invokevirtual 212, 3)), (17, (.ifCond .eq 13, 3)), (20, (.iload_n 2, 1)), (21, (.ifCond .lt 12, 3)), (24, (.iload_n 3, 1)), (25, (.bipush 60, 2)), (27, (.if_icmp .le 6, 3)), (30, (.bipush (-2), 2)), (32, (.ireturn, 1)), (33, (.iload_n 2, 1)), (34, (.ifCond .lt 10, 3)), (37, (.iload_n 3, 1)), (38, (.ifCond .ge 6, 3)), (41, (.bipush (-14), 2)), (43, (.ireturn, 1)), (44, (.aload_n 0, 1)), (45, (.getfield 199, 3)), (48, (.iload_n 1, 1)), (49, (.iload_n 2, 1)), (50, (.iastore, 1)), (51, (.aload_n 0, 1)), (52, (.getfield 202, 3)), (55, (.iload_n 1, 1)), (56, (.iload_n 2, 1)), (57, (.ifCond .ge 7, 3)), (60, (.iconst 0, 1)), (61, (.goto 4, 3)), (64, (.iload_n 3, 1)), (65, (.iastore, 1)), (66, (.iconst 0, 1))] := DL.of (by decide +kernel)
set_option maxRecDepth 20000 in
theorem dlX10_tape_1 : DL cX10_tape [(67, (.istore 4, 2)), (69, (.iload 4, 2)), (71, (.bipush 60, 2)), (73, (.if_icmp .ge 22, 3)), (76, (.aload_n 0, 1)), (77, (.getfield 205, 3)), (80, (.bipush 60, 2)), (82, (.iload_n 1, 1)), (83, (.imul, 1)), (84, (.iload 4, 2)), (86, (.iadd, 1)), (87, (.lconst 0, 1)), (88, (.lastore, 1)), (89, (.iinc 4 1, 3)), (92, (.goto (-23), 3)), (95, (.iconst 1, 1)), (96, (.ireturn, 1))] := DL.of (by decide +kernel)
set_option maxRecDepth 20000 in
theorem dlX10_narrow_0 : DL cX10_narrow [(0, (.iload_n 1, 1)), (1, (.ifCond .ne 10, 3)), (4, (.lload_n 2, 1)), (5, (.l2i, 1)), (6, (.i2b, 1)), (7, (.i2l, 1)), (8, (.goto 46, 3)), (11, (.iload_n 1, 1)), (12, (.iconst 1, 1)), (13, (.if_icmp .ne 10, 3)), (16, (.lload_n 2, 1)), (17, (.l2i, 1)), (18, (.i2s, 1)), (19, (.i2l, 1)), (20, (.goto 34, 3)), (23, (.iload_n 1, 1)), (24, (.iconst 2, 1)), (25, (.if_icmp .ne 9, 3)), (28, (.lload_n 2, 1)), (29, (.l2i, 1)), (30, (.i2l, 1)), (31, (.goto 23, 3)), (34, (.iload_n 1, 1)), (35, (.iconst 4, 1)), (36, (.if_icmp .ne 17, 3)), (39, (.lload_n 2, 1)), (40, (.lconst 0, 1)), (41, (.lcmp, 1)), (42, (.ifCond .eq 7, 3)), (45, (.lconst 1, 1)), (46, (.goto 8, 3)), (49, (.lconst 0, 1)), (50, (.goto 4, 3)), (53, (.lload_n 2, 1)), (54, (.lreturn, 1))] := DL.of (by decide +kernel)
set_option maxRecDepth 20000 in
theorem dlX10_item_0 : DL cX10_item [(0, (.aload_n 0, 1)), (1, (.iload_n 1, 1)), (2, (.invokevirtual 366, 3)), (5, (.ifCond .ne 5, 3)), (8, (.iconst (-1), 1)), (9, (.ireturn, 1)), (10, (.aload_n 0, 1)), (11, (.getfield 199, 3)), (14, (.iload_n 1, 1)), (15, (.iaload, 1)), (16, (.ifCond .ge 6, 3)), (19, (.bipush (-11), 2)), (21, (.ireturn, 1)), (22, (.aload_n 0, 1)), (23, (.iload_n 2, 1)), (24, (.iconst 0, 1)), (25, (.aload_n 0, 1)), (26, (.getfield 202, 3)), (29, (.iload_n 1, 1)), (30, (.iaload, 1)), (31, (.iconst 1, 1)), (32, (.isub, 1)), (33, (.invokevirtual 212, 3)), (36, (.ifCond .ne 6, 3)), (39, (.bipush (-13), 2)), (41, (.ireturn, 1)), (42, (.aload_n 0, 1)), (43, (.getfield 205, 3)), (46, (.bipush 60, 2)), (48, (.iload_n 1, 1)), (49, (.imul, 1)), (50, (.iload_n 2, 1)), (51, (.iadd, 1)), (52, (.aload_n 0, 1)), (53, (.aload_n 0, 1)), (54, (.getfield 199, 3)), (57, (.iload_n 1, 1)), (58, (.iaload, 1)), (59, (.lload_n 3, 1)), (60, (.invokevirtual 393, 3))] := DL.of (by decide +kernel)
set_option maxRecDepth 20000 in
theorem dlX10_item_1 : DL cX10_item [(63, (.lastore, 1)), (64, (.iconst 1, 1)), (65, (.ireturn, 1))] := DL.of (by decide +kernel)
set_option maxRecDepth 20000 in
theorem dlX10_read_0 : DL cX10_read [(0, (.aload_n 0, 1)), (1, (.iload_n 1, 1)), (2, (.invokevirtual 366, 3)), (5, (.ifCond .eq 29, 3)), (8, (.aload_n 0, 1)), (9, (.getfield 199, 3)), (12, (.iload_n 1, 1)), (13, (.iaload, 1)), (14, (.ifCond .lt 20, 3)), (17, (.aload_n 0, 1)), (18, (.iload_n 2, 1)), (19, (.iconst 0, 1)), (20, (.aload_n 0, 1)), (21, (.getfield 202, 3)), (24, (.iload_n 1, 1)), (25, (.iaload, 1)), (26, (.iconst 1, 1)), (27, (.isub, 1)), (28, (.invokevirtual 212, 3)), (31, (.ifCond .ne 9, 3)), (34, (.ldc2_w 360, 3)), (37, (.goto 14, 3)), (40, (.aload_n 0, 1)), (41, (.getfield 205, 3)), (44, (.bipush 60, 2)), (46, (.iload_n 1, 1)), (47, (.imul, 1)), (48, (.iload_n 2, 1)), (49, (.iadd, 1)), (50, (.laload, 1)), (51, (.lreturn, 1))] := DL.of (by decide +kernel)
set_option maxRecDepth 20000 in
theorem dlX10_shift_0 : DL cX10_shift [(0, (.aload_n 0, 1)), (1, (.iload_n 1, 1)), (2, (.invokevirtual 366, 3)), (5, (.ifCond .eq 11, 3)), (8, (.aload_n 0, 1)), (9, (.iload_n 3, 1)), (10, (.invokevirtual 366, 3)), (13, (.ifCond .ne 5, 3)), (16, (.iconst (-1), 1)), (17, (.ireturn, 1)), (18, (.aload_n 0, 1)), (19, (.getfield 199, 3)), (22, (.iload_n 1, 1)), (23, (.iaload, 1)), (24, (.ifCond .lt 12, 3)), (27, (.aload_n 0, 1)), (28, (.getfield 199, 3)), (31, (.iload_n 3, 1)), (32, (.iaload, 1)), (33, (.ifCond .ge 6, 3)), (36, (.bipush (-11), 2)), (38, (.ireturn, 1)), (39, (.aload_n 0, 1)), (40, (.getfield 199, 3)), (43, (.iload_n 1, 1)), (44, (.iaload, 1)), (45, (.aload_n 0, 1)), (46, (.getfield 199, 3)), (49, (.iload_n 3, 1)), (50, (.iaload, 1)), (51, (.if_icmp .eq 6, 3)), (54, (.bipush (-12), 2)), (56, (.ireturn, 1)), (57, (.iload 5, 2)), (59, (.ifCond .lt 39, 3)), (62, (.iload_n 2, 1)), (63, (.ifCond .lt 35, 3)), (66, (.iload 4, 2)), (68, (.ifCond .lt 30, 3)), (71, (.iload_n 2, 1))] := DL.of (by decide +kernel)
set_option maxRecDepth 20000 in
theorem dlX10_shift_1 : DL cX10_shift [(72, (.aload_n 0, 1)), (73, (.getfield 202, 3)), (76, (.iload_n 1, 1)), (77, (.iaload, 1)), (78, (.iload 5, 2)), (80, (.isub, 1)), (81, (.if_icmp .gt 17, 3)), (84, (.iload 4, 2)), (86, (.aload_n 0, 1)), (87, (.getfield 202, 3)), (90, (.iload_n 3, 1)), (91, (.iaload, 1)), (92, (.iload 5, 2)), (94, (.isub, 1)), (95, (.if_icmp .le 6, 3)), (98, (.bipush (-13), 2)), (100, (.ireturn, 1)), (101, (.iconst 0, 1)), (102, (.istore 6, 2)), (104, (.iload 6, 2)), (106, (.iload 5, 2)), (108, (.if_icmp .ge 30, 3)), (111, (.aload_n 0, 1)), (112, (.getfield 209, 3)), (115, (.iload 6, 2)), (117, (.aload_n 0, 1)), (118, (.getfield 205, 3)), (121, (.bipush 60, 2)), (123, (.iload_n 1, 1)), (124, (.imul, 1)), (125, (.iload_n 2, 1)), (126, (.iadd, 1)), (127, (.iload 6, 2)), (129, (.iadd, 1)), (130, (.laload, 1)), (131, (.lastore, 1)), (132, (.iinc 6 1, 3)), (135, (.goto (-31), 3)), (138, (.iconst 0, 1)), (139, (.istore 6, 2))] := DL.of (by decide +kernel)
set_option maxRecDepth 20000 in
theorem dlX10_shift_2 : DL cX10_shift [(141, (.iload 6, 2)), (143, (.iload 5, 2)), (145, (.if_icmp .ge 31, 3)), (148, (.aload_n 0, 1)), (149, (.getfield 205, 3)), (152, (.bipush 60, 2)), (154, (.iload_n 3, 1)), (155, (.imul, 1)), (156, (.iload 4, 2)), (158, (.iadd, 1)), (159, (.iload 6, 2)), (161, (.iadd, 1)), (162, (.aload_n 0, 1)), (163, (.getfield 209, 3)), (166, (.iload 6, 2)), (168, (.laload, 1)), (169, (.lastore, 1)), (170, (.iinc 6 1, 3)), (173, (.goto (-32), 3)), (176, (.iload 5, 2)), (178, (.ireturn, 1))] := DL.of (by decide +kernel)
set_option maxRecDepth 20000 in
theorem dlJ11_isValidCodePoint_9a6ad_0 : DL cJ11_isValidCodePoint_9a6ad [(0, (.iload_n 0, 1)), (1, (.bipush 16, 2)), (3, (.iushr, 1)), (4, (.istore_n 1, 1)), (5, (.iload_n 1, 1)), (6, (.bipush 17, 2)), (8, (.if_icmp .ge 7, 3)), (11, (.iconst 1, 1)), (12, (.goto 4, 3)), (15, (.iconst 0, 1)), (16, (.ireturn, 1))] := DL.of (by decide +kernel)
set_option maxRecDepth 20000 in
theorem dlJ11_highSurrogate_5068e_0 : DL cJ11_highSurrogate_5068e [(0, (.iload_n 0, 1)), (1, (.bipush 10, 2)), (3, (.iushr, 1)), (4, (.ldc 110, 2)), (6, (.iadd, 1)), (7, (.i2c, 1)), (8, (.ireturn, 1))] := DL.of (by decide +kernel)
set_option maxRecDepth 20000 in
theorem dlJ11_lowSurrogate_5068e_0 : DL cJ11_lowSurrogate_5068e [(0, (.iload_n 0, 1)), (1, (.sipush 1023, 3)), (4, (.iand, 1)), (5, (.ldc 76, 2)), (7, (.iadd, 1)), (8, (.i2c, 1)), (9, (.ireturn, 1))] := DL.of (by decide +kernel)
set_option maxRecDepth 20000 in
theorem dlJ9_max_7cf53_0 : DL cJ9_max_7cf53 [(0, (.iload_n 0, 1)), (1, (.iload_n 1, 1)), (2, (.if_icmp .lt 7, 3)), (5, (.iload_n 0, 1)), (6, (.goto 4, 3)), (9, (.iload_n 1, 1)), (10, (.ireturn, 1))] := DL.of (by decide +kernel)
set_option maxRecDepth 20000 in
theorem dlJ9_min_7cf53_0 : DL cJ9_min_7cf53 [(0, (.iload_n 0, 1)), (1, (.iload_n 1, 1)), (2, (.if_icmp .gt 7, 3)), (5, (.iload_n 0, 1)), (6, (.goto 4, 3)), (9, (.iload_n 1, 1)), (10, (.ireturn, 1))] := DL.of (by decide +kernel)
set_option maxRecDepth 20000 in
theorem dlJ0_length_8abf5_0 : DL cJ0_length_8abf5 [(0, (.aload_n 0, 1)), (1, (.getfield 9, 3)), (4, (.arraylength, 1)), (5, (.aload_n 0, 1)), (6, (.invokevirtual 335, 3)), (9, (.ishr, 1)), (10, (.ireturn, 1))] := DL.of (by decide +kernel)
set_option maxRecDepth 20000 in
theorem dlJ0_charAt_5068e_0 : DL cJ0_charAt_5068e [(0, (.aload_n 0, 1)), (1, (.invokevirtual 492, 3)), (4, (.ifCond .eq 12, 3)), (7, (.aload_n 0, 1)), (8, (.getfield 9, 3)), (11, (.iload_n 1, 1)), (12, (.invokestatic 495, 3)), (15, (.ireturn, 1)), (16, (.aload_n 0, 1)), (17, (.getfield 9, 3)), (20, (.iload_n 1, 1)), (21, (.invokestatic 498, 3)), (24, (.ireturn, 1))] := DL.of (by decide +kernel)
set_option maxRecDepth 20000 in
theorem dlJ0_indexOf_0f7a4_0 : DL cJ0_indexOf_0f7a4 [(0, (.aload_n 0, 1)), (1, (.iload_n 1, 1)), (2, (.iconst 0, 1)), (3, (.invokevirtual 633, 3)), (6, (.ireturn, 1))] := DL.of (by decide +kernel)
set_option maxRecDepth 20000 in
theorem dlJ0_indexOf_7cf53_0 : DL cJ0_indexOf_7cf53 [(0, (.aload_n 0, 1)), (1, (.invokevirtual 492, 3)), (4, (.ifCond .eq 19, 3)), (7, (.aload_n 0, 1)), (8, (.getfield 9, 3)), (11, (.iload_n 1, 1)), (12, (.iload_n 2, 1)), (13, (.aload_n 0, 1)), (14, (.invokevirtual 505, 3)), (17, (.invokestatic 637, 3)), (20, (.goto 16, 3)), (23, (.aload_n 0, 1)), (24, (.getfield 9, 3)), (27, (.iload_n 1, 1)), (28, (.iload_n 2, 1)), (29, (.aload_n 0, 1)), (30, (.invokevirtual 505, 3)), (33, (.invokestatic 640, 3)), (36, (.ireturn, 1))] := DL.of (by decide +kernel)
set_option maxRecDepth 20000 in
theorem dlJ0_coder_7d493_0 : DL cJ0_coder_7d493 [(0, (.getstatic 38, 3)), (3, (.ifCond .eq 10, 3)), (6, (.aload_n 0, 1)), (7, (.getfield 15, 3)), (10, (.goto 4, 3)), (13, (.iconst 1, 1)), (14, (.ireturn, 1))] := DL.of (by decide +kernel)
set_option maxRecDepth 20000 in
theorem dlJ0_isLatin1_aae02_0 : DL cJ0_isLatin1_aae02 [(0, (.getstatic 38, 3)), (3, (.ifCond .eq 14, 3)), (6, (.aload_n 0, 1)), (7, (.getfield 15, 3)), (10, (.ifCond .ne 7, 3)), (13, (.iconst 1, 1)), (14, (.goto 4, 3)), (17, (.iconst 0, 1)), (18, (.ireturn, 1))] := DL.of (by decide +kernel)
set_option maxRecDepth 20000 in
theorem dlJ0_checkIndex_df160_0 : DL cJ0_checkIndex_df160 [(0, (.iload_n 0, 1)), (1, (.iload_n 1, 1)), (2, (.getstatic 1053, 3)), (5, (.invokestatic 1059, 3)), (8, (.pop, 1)), (9, (.return_, 1))] := DL.of (by decide +kernel)
set_option maxRecDepth 20000 in
theorem dlJ0_checkBoundsBeginEnd_23922_0 : DL cJ0_checkBoundsBeginEnd_23922 [(0, (.iload_n 0, 1)), (1, (.iload_n 1, 1)), (2, (.iload_n 2, 1)), (3, (.getstatic 1053, 3)), (6, (.invokestatic 1062, 3)), (9, (.pop, 1)), (10, (.return_, 1))] := DL.of (by decide +kernel)
set_option maxRecDepth 20000 in
theorem dlJ1_charAt_3b067_0 : DL cJ1_charAt_3b067 [(0, (.iload_n 1, 1)), (1, (.aload_n 0, 1)), (2, (.arraylength, 1)), (3, (.invokestatic 9, 3)), (6, (.aload_n 0, 1)), (7, (.iload_n 1, 1)), (8, (.baload, 1)), (9, (.sipush 255, 3)), (12, (.iand, 1)), (13, (.i2c, 1)), (14, (.ireturn, 1))] := DL.of (by decide +kernel)
set_option maxRecDepth 20000 in
theorem dlJ1_canEncode_9a6ad_0 : DL cJ1_canEncode_9a6ad [(0, (.iload_n 0, 1)), (1, (.ifCond .lt 14, 3)), (4, (.iload_n 0, 1)), (5, (.sipush 255, 3)), (8, (.if_icmp .gt 7, 3)), (11, (.iconst 1, 1)), (12, (.goto 4, 3)), (15, (.iconst 0, 1)), (16, (.ireturn, 1))] := DL.of (by decide +kernel)
set_option maxRecDepth 20000 in
theorem dlJ1_indexOf_4cfef_0 : DL cJ1_indexOf_4cfef [(0, (.iload_n 1, 1)), (1, (.invokestatic 88, 3)), (4, (.ifCond .ne 5, 3)), (7, (.iconst (-1), 1)), (8, (.ireturn, 1)), (9, (.iload_n 2, 1)), (10, (.iconst 0, 1)), (11, (.invokestatic 92, 3)), (14, (.istore_n 2, 1)), (15, (.iload_n 3, 1)), (16, (.aload_n 0, 1)), (17, (.arraylength, 1)), (18, (.invokestatic 38, 3)), (21, (.istore_n 3, 1)), (22, (.iload_n 2, 1)), (23, (.iload_n 3, 1)), (24, (.if_icmp .lt 5, 3)), (27, (.iconst (-1), 1)), (28, (.ireturn, 1)), (29, (.aload_n 0, 1)), (30, (.iload_n 1, 1)), (31, (.iload_n 2, 1)), (32, (.iload_n 3, 1)), (33, (.invokestatic 95, 3)), (36, (.ireturn, 1))] := DL.of (by decide +kernel)
set_option maxRecDepth 20000 in
theorem dlJ1_indexOfChar_4cfef_0 : DL cJ1_indexOfChar_4cfef [(0, (.iload_n 1, 1)), (1, (.i2b, 1)), (2, (.istore 4, 2)), (4, (.iload_n 2, 1)), (5, (.istore 5, 2)), (7, (.iload 5, 2)), (9, (.iload_n 3, 1)), (10, (.if_icmp .ge 21, 3)), (13, (.aload_n 0, 1)), (14, (.iload 5, 2)), (16, (.baload, 1)), (17, (.iload 4, 2)), (19, (.if_icmp .ne 6, 3)), (22, (.iload 5, 2)), (24, (.ireturn, 1)), (25, (.iinc 5 1, 3)), (28, (.goto (-21), 3)), (31, (.iconst (-1), 1)), (32, (.ireturn, 1))] := DL.of (by decide +kernel)
set_option maxRecDepth 20000 in
theorem dlJ2_getChar_3b067_0 : DL cJ2_getChar_3b067 [(0, (.getstatic 44, 3)), (3, (.ifCond .ne 25, 3)), (6, (.iload_n 1, 1)), (7, (.ifCond .lt 11, 3)), (10, (.iload_n 1, 1)), (11, (.aload_n 0, 1)), (12, (.invokestatic 48, 3)), (15, (.if_icmp .lt 13, 3)), (18, (.new 52, 3)), (21, (.dup, 1)), (22, (.ldc 54, 2)), (24, (.invokespecial 56, 3)), (27, (.athrow, 1)), (28, (.iload_n 1, 1)), (29, (.iconst 1, 1)), (30, (.ishl, 1)), (31, (.istore_n 1, 1)), (32, (.aload_n 0, 1)), (33, (.iload_n 1, 1)), (34, (.iinc 1 1, 3)), (37, (.baload, 1)), (38, (.sipush 255, 3)), (41, (.iand, 1)), (42, (.getstatic 59, 3)), (45, (.ishl, 1)), (46, (.aload_n 0, 1)), (47, (.iload_n 1, 1)), (48, (.baload, 1)), (49, (.sipush 255, 3)), (52, (.iand, 1)), (53, (.getstatic 63, 3)), (56, (.ishl, 1)), (57, (.ior, 1)), (58, (.i2c, 1)), (59, (.ireturn, 1))] := DL.of (by decide +kernel)
set_option maxRecDepth 20000 in
theorem dlJ2_length_9d52b_0 : DL cJ2_length_9d52b [(0, (.aload_n 0, 1)), (1, (.arraylength, 1)), (2, (.iconst 1, 1)), (3, (.ishr, 1)), (4, (.ireturn, 1))] := DL.of (by decide +kernel)
set_option maxRecDepth 20000 in
theorem dlJ2_indexOf_4cfef_0 : DL cJ2_indexOf_4cfef [(0, (.iload_n 2, 1)), (1, (.iconst 0, 1)), (2, (.invokestatic 224, 3)), (5, (.istore_n 2, 1)), (6, (.iload_n 3, 1)), (7, (.aload_n 0, 1)), (8, (.arraylength, 1)), (9, (.iconst 1, 1)), (10, (.ishr, 1)), (11, (.invokestatic 183, 3)), (14, (.istore_n 3, 1)), (15, (.iload_n 2, 1)), (16, (.iload_n 3, 1)), (17, (.if_icmp .lt 5, 3)), (20, (.iconst (-1), 1)), (21, (.ireturn, 1)), (22, (.iload_n 1, 1)), (23, (.ldc 227, 2)), (25, (.if_icmp .ge 11, 3)), (28, (.aload_n 0, 1)), (29, (.iload_n 1, 1)), (30, (.iload_n 2, 1)), (31, (.iload_n 3, 1)), (32, (.invokestatic 228, 3)), (35, (.ireturn, 1)), (36, (.aload_n 0, 1)), (37, (.iload_n 1, 1)), (38, (.iload_n 2, 1)), (39, (.iload_n 3, 1)), (40, (.invokestatic 232, 3)), (43, (.ireturn, 1))] := DL.of (by decide +kernel)
set_option maxRecDepth 20000 in
theorem dlJ2_indexOfChar_4cfef_0 : DL cJ2_indexOfChar_4cfef [(0, (.iload_n 2, 1)), (1, (.iload_n 3, 1)), (2, (.aload_n 0, 1)), (3, (.invokestatic 96, 3)), (6, (.aload_n 0, 1)), (7, (.iload_n 1, 1)), (8, (.iload_n 2, 1)), (9, (.iload_n 3, 1)), (10, (.invokestatic 244, 3)), (13, (.ireturn, 1))] := DL.of (by decide +kernel)
set_option maxRecDepth 20000 in
theorem dlJ2_indexOfCharUnsafe_4cfef_0 : DL cJ2_indexOfCharUnsafe_4cfef [(0, (.iload_n 2, 1)), (1, (.istore 4, 2)), (3, (.iload 4, 2)), (5, (.iload_n 3, 1)), (6, (.if_icmp .ge 22, 3)), (9, (.aload_n 0, 1)), (10, (.iload 4, 2)), (12, (.invokestatic 71, 3)), (15, (.iload_n 1, 1)), (16, (.if_icmp .ne 6, 3)), (19, (.iload 4, 2)), (21, (.ireturn, 1)), (22, (.iinc 4 1, 3)), (25, (.goto (-22), 3)), (28, (.iconst (-1), 1)), (29, (.ireturn, 1))] := DL.of (by decide +kernel)
set_option maxRecDepth 20000 in
theorem dlJ2_indexOfSupplementary_4cfef_0 : DL cJ2_indexOfSupplementary_4cfef [(0, (.iload_n 1, 1)), (1, (.invokestatic 164, 3)), (4, (.ifCond .eq 65, 3)), (7, (.iload_n 1, 1)), (8, (.invokestatic 157, 3)), (11, (.istore 4, 2)), (13, (.iload_n 1, 1)), (14, (.invokestatic 161, 3)), (17, (.istore 5, 2)), (19, (.iload_n 2, 1)), (20, (.iload_n 3, 1)), (21, (.aload_n 0, 1)), (22, (.invokestatic 96, 3)), (25, (.iload_n 2, 1)), (26, (.istore 6, 2)), (28, (.iload 6, 2)), (30, (.iload_n 3, 1)), (31, (.iconst 1, 1)), (32, (.isub, 1)), (33, (.if_icmp .ge 36, 3)), (36, (.aload_n 0, 1)), (37, (.iload 6, 2)), (39, (.invokestatic 71, 3)), (42, (.iload 4, 2)), (44, (.if_icmp .ne 19, 3)), (47, (.aload_n 0, 1)), (48, (.iload 6, 2)), (50, (.iconst 1, 1)), (51, (.iadd, 1)), (52, (.invokestatic 71, 3)), (55, (.iload 5, 2)), (57, (.if_icmp .ne 6, 3)), (60, (.iload 6, 2)), (62, (.ireturn, 1)), (63, (.iinc 6 1, 3)), (66, (.goto (-38), 3)), (69, (.iconst (-1), 1)), (70, (.ireturn, 1))] := DL.of (by decide +kernel)
set_option maxRecDepth 20000 in
theorem dlJ2_charAt_3b067_0 : DL cJ2_charAt_3b067 [(0, (.iload_n 1, 1)), (1, (.aload_n 0, 1)), (2, (.invokestatic 67, 3)), (5, (.aload_n 0, 1)), (6, (.iload_n 1, 1)), (7, (.invokestatic 71, 3)), (10, (.ireturn, 1))] := DL.of (by decide +kernel)
set_option maxRecDepth 20000 in
theorem dlJ2_checkIndex_2214a_0 : DL cJ2_checkIndex_2214a [(0, (.iload_n 0, 1)), (1, (.aload_n 1, 1)), (2, (.invokestatic 48, 3)), (5, (.invokestatic 414, 3)), (8, (.return_, 1))] := DL.of (by decide +kernel)
set_option maxRecDepth 20000 in
theorem dlJ2_checkBoundsBeginEnd_d044e_0 : DL cJ2_checkBoundsBeginEnd_d044e [(0, (.iload_n 0, 1)), (1, (.iload_n 1, 1)), (2, (.aload_n 2, 1)), (3, (.invokestatic 48, 3)), (6, (.invokestatic 241, 3)), (9, (.return_, 1))] := DL.of (by decide +kernel)
set_option maxRecDepth 20000 in
theorem dlJ7_fill_d0a16_0 : DL cJ7_fill_d0a16 [(0, (.iconst 0, 1)), (1, (.istore_n 3, 1)), (2, (.aload_n 0, 1)), (3, (.arraylength, 1)), (4, (.istore 4, 2)), (6, (.iload_n 3, 1)), (7, (.iload 4, 2)), (9, (.if_icmp .ge 13, 3)), (12, (.aload_n 0, 1)), (13, (.iload_n 3, 1)), (14, (.lload_n 1, 1)), (15, (.lastore, 1)), (16, (.iinc 3 1, 3)), (19, (.goto (-13), 3)), (22, (.return_, 1))] := DL.of (by decide +kernel)
set_option maxRecDepth 20000 in
theorem dlJ3_checkIndex_8e157_0 : DL cJ3_checkIndex_8e157 [(0, (.iload_n 0, 1)), (1, (.ifCond .lt 8, 3)), (4, (.iload_n 0, 1)), (5, (.iload_n 1, 1)), (6, (.if_icmp .lt 10, 3)), (9, (.aload_n 2, 1)), (10, (.iload_n 0, 1)), (11, (.iload_n 1, 1)), (12, (.invokestatic 95, 3)), (15, (.athrow, 1)), (16, (.iload_n 0, 1)), (17, (.ireturn, 1))] := DL.of (by decide +kernel)
set_option maxRecDepth 20000 in
theorem dlJ3_checkFromToIndex_8c36e_0 : DL cJ3_checkFromToIndex_8c36e [(0, (.iload_n 0, 1)), (1, (.ifCond .lt 13, 3)), (4, (.iload_n 0, 1)), (5, (.iload_n 1, 1)), (6, (.if_icmp .gt 8, 3)), (9, (.iload_n 1, 1)), (10, (.iload_n 2, 1)), (11, (.if_icmp .le 11, 3)), (14, (.aload_n 3, 1)), (15, (.iload_n 0, 1)), (16, (.iload_n 1, 1)), (17, (.iload_n 2, 1)), (18, (.invokestatic 99, 3)), (21, (.athrow, 1)), (22, (.iload_n 0, 1)), (23, (.ireturn, 1))] := DL.of (by decide +kernel)
set_option maxRecDepth 20000 in
theorem dlL_law_0 : DL cL_law [(0, (.new 7, 3)), (3, (.dup, 1)), (4, (.invokespecial 9, 3)), (7, (.astore_n 1, 1)), (8, (.new 10, 3)), (11, (.dup, 1)), (12, (.invokespecial 12, 3)), (15, (.astore_n 2, 1)), (16, (.iconst 0, 1)), (17, (.istore_n 3, 1)), (18, (.iload_n 3, 1)), (19, (.aload_n 0, 1)), (20, (.arraylength, 1)), (21, (.bipush 6, 2)), (23, (.isub, 1)), (24, (.if_icmp .gt 1274, 3)), (27, (.aload_n 0, 1)), (28, (.iload_n 3, 1)), (29, (.iaload, 1)), (30, (.bipush 63, 2)), (32, (.iand, 1)), (33, (.tableswitch 1259 0 34 #[155, 198, 231, 264, 297, 346, 389, 412, 425, 448, 471, 494, 537, 560, 593, 606, 649, 682, 715, 749, 773, 796, 819, 852, 865, 898, 911, 924, 967, 990, 1023, 1046, 1089, 1162, 1196], 155)), (188, (.aload_n 1, 1)), (189, (.aload_n 0, 1)), (190, (.iload_n 3, 1)), (191, (.iconst 1, 1)), (192, (.iadd, 1)), (193, (.iaload, 1)), (194, (.aload_n 0, 1)), (195, (.iload_n 3, 1)), (196, (.iconst 2, 1)), (197, (.iadd, 1)), (198, (.iaload, 1)), (199, (.aload_n 0, 1)), (200, (.iload_n 3, 1)), (201, (.iconst 3, 1)), (202, (.iadd, 1)), (203, (.iaload, 1)), (204, (.invokevirtual 13, 3)), (207, (.aload_n 2, 1))] := DL.of (by decide +kernel)
set_option maxRecDepth 20000 in
theorem dlL_law_1 : DL cL_law [(208, (.aload_n 0, 1)), (209, (.iload_n 3, 1)), (210, (.iconst 1, 1)), (211, (.iadd, 1)), (212, (.iaload, 1)), (213, (.aload_n 0, 1)), (214, (.iload_n 3, 1)), (215, (.iconst 2, 1)), (216, (.iadd, 1)), (217, (.iaload, 1)), (218, (.aload_n 0, 1)), (219, (.iload_n 3, 1)), (220, (.iconst 3, 1)), (221, (.iadd, 1)), (222, (.iaload, 1)), (223, (.invokevirtual 17, 3)), (226, (.if_icmp .eq 1066, 3)), (229, (.iconst 0, 1)), (230, (.ireturn, 1)), (231, (.aload_n 1, 1)), (232, (.aload_n 0, 1)), (233, (.iload_n 3, 1)), (234, (.iconst 1, 1)), (235, (.iadd, 1)), (236, (.iaload, 1)), (237, (.aload_n 0, 1)), (238, (.iload_n 3, 1)), (239, (.iconst 2, 1)), (240, (.iadd, 1)), (241, (.iaload, 1)), (242, (.invokevirtual 18, 3)), (245, (.aload_n 2, 1)), (246, (.aload_n 0, 1)), (247, (.iload_n 3, 1)), (248, (.iconst 1, 1)), (249, (.iadd, 1)), (250, (.iaload, 1)), (251, (.aload_n 0, 1)), (252, (.iload_n 3, 1)), (253, (.iconst 2, 1))] := DL.of (by decide +kernel)
set_option maxRecDepth 20000 in
theorem dlL_law_2 : DL cL_law [(254, (.iadd, 1)), (255, (.iaload, 1)), (256, (.invokevirtual 22, 3)), (259, (.if_icmp .eq 1033, 3)), (262, (.iconst 0, 1)), (263, (.ireturn, 1)), (264, (.aload_n 1, 1)), (265, (.aload_n 0, 1)), (266, (.iload_n 3, 1)), (267, (.iconst 1, 1)), (268, (.iadd, 1)), (269, (.iaload, 1)), (270, (.aload_n 0, 1)), (271, (.iload_n 3, 1)), (272, (.iconst 2, 1)), (273, (.iadd, 1)), (274, (.iaload, 1)), (275, (.invokevirtual 23, 3)), (278, (.aload_n 2, 1)), (279, (.aload_n 0, 1)), (280, (.iload_n 3, 1)), (281, (.iconst 1, 1)), (282, (.iadd, 1)), (283, (.iaload, 1)), (284, (.aload_n 0, 1)), (285, (.iload_n 3, 1)), (286, (.iconst 2, 1)), (287, (.iadd, 1)), (288, (.iaload, 1)), (289, (.invokevirtual 26, 3)), (292, (.if_icmp .eq 1000, 3)), (295, (.iconst 0, 1)), (296, (.ireturn, 1)), (297, (.aload_n 1, 1)), (298, (.aload_n 0, 1)), (299, (.iload_n 3, 1)), (300, (.iconst 1, 1)), (301, (.iadd, 1)), (302, (.iaload, 1)), (303, (.aload_n 0, 1))] := DL.of (by decide +kernel)
set_option maxRecDepth 20000 in
theorem dlL_law_3 : DL cL_law [(304, (.iload_n 3, 1)), (305, (.iconst 2, 1)), (306, (.iadd, 1)), (307, (.iaload, 1)), (308, (.invokevirtual 27, 3)), (311, (.aload_n 2, 1)), (312, (.aload_n 0, 1)), (313, (.iload_n 3, 1)), (314, (.iconst 1, 1)), (315, (.iadd, 1)), (316, (.iaload, 1)), (317, (.aload_n 0, 1)), (318, (.iload_n 3, 1)), (319, (.iconst 2, 1)), (320, (.iadd, 1)), (321, (.iaload, 1)), (322, (.invokevirtual 30, 3)), (325, (.if_icmp .eq 967, 3)), (328, (.iconst 0, 1)), (329, (.ireturn, 1)), (330, (.aload_n 1, 1)), (331, (.aload_n 0, 1)), (332, (.iload_n 3, 1)), (333, (.iconst 1, 1)), (334, (.iadd, 1)), (335, (.iaload, 1)), (336, (.aload_n 0, 1)), (337, (.iload_n 3, 1)), (338, (.iconst 2, 1)), (339, (.iadd, 1)), (340, (.iaload, 1)), (341, (.ifCond .eq 7, 3)), (344, (.iconst 1, 1)), (345, (.goto 4, 3)), (348, (.iconst 0, 1)), (349, (.invokevirtual 31, 3)), (352, (.aload_n 2, 1)), (353, (.aload_n 0, 1)), (354, (.iload_n 3, 1)), (355, (.iconst 1, 1))] := DL.of (by decide +kernel)
set_option maxRecDepth 20000 in
theorem dlL_law_4 : DL cL_law [(356, (.iadd, 1)), (357, (.iaload, 1)), (358, (.aload_n 0, 1)), (359, (.iload_n 3, 1)), (360, (.iconst 2, 1)), (361, (.iadd, 1)), (362, (.iaload, 1)), (363, (.ifCond .eq 7, 3)), (366, (.iconst 1, 1)), (367, (.goto 4, 3)), (370, (.iconst 0, 1)), (371, (.invokevirtual 35, 3)), (374, (.if_icmp .eq 918, 3)), (377, (.iconst 0, 1)), (378, (.ireturn, 1)), (379, (.aload_n 1, 1)), (380, (.aload_n 0, 1)), (381, (.iload_n 3, 1)), (382, (.iconst 1, 1)), (383, (.iadd, 1)), (384, (.iaload, 1)), (385, (.aload_n 0, 1)), (386, (.iload_n 3, 1)), (387, (.iconst 2, 1)), (388, (.iadd, 1)), (389, (.iaload, 1)), (390, (.aload_n 0, 1)), (391, (.iload_n 3, 1)), (392, (.iconst 3, 1)), (393, (.iadd, 1)), (394, (.iaload, 1)), (395, (.invokevirtual 36, 3)), (398, (.aload_n 2, 1)), (399, (.aload_n 0, 1)), (400, (.iload_n 3, 1)), (401, (.iconst 1, 1)), (402, (.iadd, 1)), (403, (.iaload, 1)), (404, (.aload_n 0, 1)), (405, (.iload_n 3, 1))] := DL.of (by decide +kernel)
set_option maxRecDepth 20000 in
theorem dlL_law_5 : DL cL_law [(406, (.iconst 2, 1)), (407, (.iadd, 1)), (408, (.iaload, 1)), (409, (.aload_n 0, 1)), (410, (.iload_n 3, 1)), (411, (.iconst 3, 1)), (412, (.iadd, 1)), (413, (.iaload, 1)), (414, (.invokevirtual 39, 3)), (417, (.if_icmp .eq 875, 3)), (420, (.iconst 0, 1)), (421, (.ireturn, 1)), (422, (.aload_n 1, 1)), (423, (.aload_n 0, 1)), (424, (.iload_n 3, 1)), (425, (.iconst 1, 1)), (426, (.iadd, 1)), (427, (.iaload, 1)), (428, (.invokevirtual 40, 3)), (431, (.aload_n 2, 1)), (432, (.aload_n 0, 1)), (433, (.iload_n 3, 1)), (434, (.iconst 1, 1)), (435, (.iadd, 1)), (436, (.iaload, 1)), (437, (.invokevirtual 44, 3)), (440, (.if_icmp .eq 852, 3)), (443, (.iconst 0, 1)), (444, (.ireturn, 1)), (445, (.aload_n 1, 1)), (446, (.invokevirtual 45, 3)), (449, (.aload_n 2, 1)), (450, (.invokevirtual 49, 3)), (453, (.if_icmp .eq 839, 3)), (456, (.iconst 0, 1)), (457, (.ireturn, 1)), (458, (.aload_n 1, 1)), (459, (.aload_n 0, 1)), (460, (.iload_n 3, 1)), (461, (.iconst 1, 1))] := DL.of (by decide +kernel)
set_option maxRecDepth 20000 in
theorem dlL_law_6 : DL cL_law [(462, (.iadd, 1)), (463, (.iaload, 1)), (464, (.invokevirtual 50, 3)), (467, (.aload_n 2, 1)), (468, (.aload_n 0, 1)), (469, (.iload_n 3, 1)), (470, (.iconst 1, 1)), (471, (.iadd, 1)), (472, (.iaload, 1)), (473, (.invokevirtual 53, 3)), (476, (.if_icmp .eq 816, 3)), (479, (.iconst 0, 1)), (480, (.ireturn, 1)), (481, (.aload_n 1, 1)), (482, (.aload_n 0, 1)), (483, (.iload_n 3, 1)), (484, (.iconst 1, 1)), (485, (.iadd, 1)), (486, (.iaload, 1)), (487, (.invokevirtual 54, 3)), (490, (.aload_n 2, 1)), (491, (.aload_n 0, 1)), (492, (.iload_n 3, 1)), (493, (.iconst 1, 1)), (494, (.iadd, 1)), (495, (.iaload, 1)), (496, (.invokevirtual 57, 3)), (499, (.if_icmp .eq 793, 3)), (502, (.iconst 0, 1)), (503, (.ireturn, 1)), (504, (.aload_n 1, 1)), (505, (.aload_n 0, 1)), (506, (.iload_n 3, 1)), (507, (.iconst 1, 1)), (508, (.iadd, 1)), (509, (.iaload, 1)), (510, (.invokevirtual 58, 3)), (513, (.aload_n 2, 1)), (514, (.aload_n 0, 1)), (515, (.iload_n 3, 1))] := DL.of (by decide +kernel)
set_option maxRecDepth 20000 in
theorem dlL_law_7 : DL cL_law [(516, (.iconst 1, 1)), (517, (.iadd, 1)), (518, (.iaload, 1)), (519, (.invokevirtual 61, 3)), (522, (.if_icmp .eq 770, 3)), (525, (.iconst 0, 1)), (526, (.ireturn, 1)), (527, (.aload_n 1, 1)), (528, (.aload_n 0, 1)), (529, (.iload_n 3, 1)), (530, (.iconst 1, 1)), (531, (.iadd, 1)), (532, (.iaload, 1)), (533, (.aload_n 0, 1)), (534, (.iload_n 3, 1)), (535, (.iconst 2, 1)), (536, (.iadd, 1)), (537, (.iaload, 1)), (538, (.aload_n 0, 1)), (539, (.iload_n 3, 1)), (540, (.iconst 3, 1)), (541, (.iadd, 1)), (542, (.iaload, 1)), (543, (.invokevirtual 62, 3)), (546, (.aload_n 2, 1)), (547, (.aload_n 0, 1)), (548, (.iload_n 3, 1)), (549, (.iconst 1, 1)), (550, (.iadd, 1)), (551, (.iaload, 1)), (552, (.aload_n 0, 1)), (553, (.iload_n 3, 1)), (554, (.iconst 2, 1)), (555, (.iadd, 1)), (556, (.iaload, 1)), (557, (.aload_n 0, 1)), (558, (.iload_n 3, 1)), (559, (.iconst 3, 1)), (560, (.iadd, 1)), (561, (.iaload, 1))] := DL.of (by decide +kernel)
set_option maxRecDepth 20000 in
theorem dlL_law_8 : DL cL_law [(562, (.invokevirtual 65, 3)), (565, (.if_icmp .eq 727, 3)), (568, (.iconst 0, 1)), (569, (.ireturn, 1)), (570, (.aload_n 1, 1)), (571, (.aload_n 0, 1)), (572, (.iload_n 3, 1)), (573, (.iconst 1, 1)), (574, (.iadd, 1)), (575, (.iaload, 1)), (576, (.invokevirtual 66, 3)), (579, (.aload_n 2, 1)), (580, (.aload_n 0, 1)), (581, (.iload_n 3, 1)), (582, (.iconst 1, 1)), (583, (.iadd, 1)), (584, (.iaload, 1)), (585, (.invokevirtual 69, 3)), (588, (.if_icmp .eq 704, 3)), (591, (.iconst 0, 1)), (592, (.ireturn, 1)), (593, (.aload_n 1, 1)), (594, (.aload_n 0, 1)), (595, (.iload_n 3, 1)), (596, (.iconst 1, 1)), (597, (.iadd, 1)), (598, (.iaload, 1)), (599, (.aload_n 0, 1)), (600, (.iload_n 3, 1)), (601, (.iconst 2, 1)), (602, (.iadd, 1)), (603, (.iaload, 1)), (604, (.invokevirtual 70, 3)), (607, (.aload_n 2, 1)), (608, (.aload_n 0, 1)), (609, (.iload_n 3, 1)), (610, (.iconst 1, 1)), (611, (.iadd, 1)), (612, (.iaload, 1)), (613, (.aload_n 0, 1))] := DL.of (by decide +kernel)
set_option maxRecDepth 20000 in
theorem dlL_law_9 : DL cL_law [(614, (.iload_n 3, 1)), (615, (.iconst 2, 1)), (616, (.iadd, 1)), (617, (.iaload, 1)), (618, (.invokevirtual 73, 3)), (621, (.if_icmp .eq 671, 3)), (624, (.iconst 0, 1)), (625, (.ireturn, 1)), (626, (.aload_n 1, 1)), (627, (.invokevirtual 74, 3)), (630, (.aload_n 2, 1)), (631, (.invokevirtual 77, 3)), (634, (.if_icmp .eq 658, 3)), (637, (.iconst 0, 1)), (638, (.ireturn, 1)), (639, (.aload_n 1, 1)), (640, (.aload_n 0, 1)), (641, (.iload_n 3, 1)), (642, (.iconst 1, 1)), (643, (.iadd, 1)), (644, (.iaload, 1)), (645, (.aload_n 0, 1)), (646, (.iload_n 3, 1)), (647, (.iconst 2, 1)), (648, (.iadd, 1)), (649, (.iaload, 1)), (650, (.aload_n 0, 1)), (651, (.iload_n 3, 1)), (652, (.iconst 3, 1)), (653, (.iadd, 1)), (654, (.iaload, 1)), (655, (.invokevirtual 78, 3)), (658, (.aload_n 2, 1)), (659, (.aload_n 0, 1)), (660, (.iload_n 3, 1)), (661, (.iconst 1, 1)), (662, (.iadd, 1)), (663, (.iaload, 1)), (664, (.aload_n 0, 1)), (665, (.iload_n 3, 1))] := DL.of (by decide +kernel)
set_option maxRecDepth 20000 in
theorem dlL_law_10 : DL cL_law [(666, (.iconst 2, 1)), (667, (.iadd, 1)), (668, (.iaload, 1)), (669, (.aload_n 0, 1)), (670, (.iload_n 3, 1)), (671, (.iconst 3, 1)), (672, (.iadd, 1)), (673, (.iaload, 1)), (674, (.invokevirtual 81, 3)), (677, (.if_icmp .eq 615, 3)), (680, (.iconst 0, 1)), (681, (.ireturn, 1)), (682, (.aload_n 1, 1)), (683, (.aload_n 0, 1)), (684, (.iload_n 3, 1)), (685, (.iconst 1, 1)), (686, (.iadd, 1)), (687, (.iaload, 1)), (688, (.aload_n 0, 1)), (689, (.iload_n 3, 1)), (690, (.iconst 2, 1)), (691, (.iadd, 1)), (692, (.iaload, 1)), (693, (.invokevirtual 82, 3)), (696, (.aload_n 2, 1)), (697, (.aload_n 0, 1)), (698, (.iload_n 3, 1)), (699, (.iconst 1, 1)), (700, (.iadd, 1)), (701, (.iaload, 1)), (702, (.aload_n 0, 1)), (703, (.iload_n 3, 1)), (704, (.iconst 2, 1)), (705, (.iadd, 1)), (706, (.iaload, 1)), (707, (.invokevirtual 85, 3)), (710, (.if_icmp .eq 582, 3)), (713, (.iconst 0, 1)), (714, (.ireturn, 1)), (715, (.aload_n 1, 1))] := DL.of (by decide +kernel)
set_option maxRecDepth 20000 in
theorem dlL_law_11 : DL cL_law [(716, (.aload_n 0, 1)), (717, (.iload_n 3, 1)), (718, (.iconst 1, 1)), (719, (.iadd, 1)), (720, (.iaload, 1)), (721, (.aload_n 0, 1)), (722, (.iload_n 3, 1)), (723, (.iconst 2, 1)), (724, (.iadd, 1)), (725, (.iaload, 1)), (726, (.invokevirtual 86, 3)), (729, (.aload_n 2, 1)), (730, (.aload_n 0, 1)), (731, (.iload_n 3, 1)), (732, (.iconst 1, 1)), (733, (.iadd, 1)), (734, (.iaload, 1)), (735, (.aload_n 0, 1)), (736, (.iload_n 3, 1)), (737, (.iconst 2, 1)), (738, (.iadd, 1)), (739, (.iaload, 1)), (740, (.invokevirtual 89, 3)), (743, (.if_icmp .eq 549, 3)), (746, (.iconst 0, 1)), (747, (.ireturn, 1)), (748, (.aload_n 1, 1)), (749, (.aload_n 0, 1)), (750, (.iload_n 3, 1)), (751, (.iconst 1, 1)), (752, (.iadd, 1)), (753, (.iaload, 1)), (754, (.aload_n 0, 1)), (755, (.iload_n 3, 1)), (756, (.iconst 2, 1)), (757, (.iadd, 1)), (758, (.iaload, 1)), (759, (.invokevirtual 90, 3)), (762, (.aload_n 2, 1)), (763, (.aload_n 0, 1))] := DL.of (by decide +kernel)
set_option maxRecDepth 20000 in
theorem dlL_law_12 : DL cL_law [(764, (.iload_n 3, 1)), (765, (.iconst 1, 1)), (766, (.iadd, 1)), (767, (.iaload, 1)), (768, (.aload_n 0, 1)), (769, (.iload_n 3, 1)), (770, (.iconst 2, 1)), (771, (.iadd, 1)), (772, (.iaload, 1)), (773, (.invokevirtual 94, 3)), (776, (.lcmp, 1)), (777, (.ifCond .eq 515, 3)), (780, (.iconst 0, 1)), (781, (.ireturn, 1)), (782, (.aload_n 1, 1)), (783, (.aload_n 0, 1)), (784, (.iload_n 3, 1)), (785, (.iconst 1, 1)), (786, (.iadd, 1)), (787, (.iaload, 1)), (788, (.invokevirtual 95, 3)), (791, (.aload_n 2, 1)), (792, (.aload_n 0, 1)), (793, (.iload_n 3, 1)), (794, (.iconst 1, 1)), (795, (.iadd, 1)), (796, (.iaload, 1)), (797, (.invokevirtual 99, 3)), (800, (.lcmp, 1)), (801, (.ifCond .eq 491, 3)), (804, (.iconst 0, 1)), (805, (.ireturn, 1)), (806, (.aload_n 1, 1)), (807, (.aload_n 0, 1)), (808, (.iload_n 3, 1)), (809, (.iconst 1, 1)), (810, (.iadd, 1)), (811, (.iaload, 1)), (812, (.invokevirtual 100, 3)), (815, (.aload_n 2, 1))] := DL.of (by decide +kernel)
set_option maxRecDepth 20000 in
theorem dlL_law_13 : DL cL_law [(816, (.aload_n 0, 1)), (817, (.iload_n 3, 1)), (818, (.iconst 1, 1)), (819, (.iadd, 1)), (820, (.iaload, 1)), (821, (.invokevirtual 103, 3)), (824, (.if_icmp .eq 468, 3)), (827, (.iconst 0, 1)), (828, (.ireturn, 1)), (829, (.aload_n 1, 1)), (830, (.aload_n 0, 1)), (831, (.iload_n 3, 1)), (832, (.iconst 1, 1)), (833, (.iadd, 1)), (834, (.iaload, 1)), (835, (.invokevirtual 104, 3)), (838, (.aload_n 2, 1)), (839, (.aload_n 0, 1)), (840, (.iload_n 3, 1)), (841, (.iconst 1, 1)), (842, (.iadd, 1)), (843, (.iaload, 1)), (844, (.invokevirtual 107, 3)), (847, (.if_icmp .eq 445, 3)), (850, (.iconst 0, 1)), (851, (.ireturn, 1)), (852, (.aload_n 1, 1)), (853, (.aload_n 0, 1)), (854, (.iload_n 3, 1)), (855, (.iconst 1, 1)), (856, (.iadd, 1)), (857, (.iaload, 1)), (858, (.aload_n 0, 1)), (859, (.iload_n 3, 1)), (860, (.iconst 2, 1)), (861, (.iadd, 1)), (862, (.iaload, 1)), (863, (.invokevirtual 108, 3)), (866, (.aload_n 2, 1)), (867, (.aload_n 0, 1))] := DL.of (by decide +kernel)
set_option maxRecDepth 20000 in
theorem dlL_law_14 : DL cL_law [(868, (.iload_n 3, 1)), (869, (.iconst 1, 1)), (870, (.iadd, 1)), (871, (.iaload, 1)), (872, (.aload_n 0, 1)), (873, (.iload_n 3, 1)), (874, (.iconst 2, 1)), (875, (.iadd, 1)), (876, (.iaload, 1)), (877, (.invokevirtual 111, 3)), (880, (.if_icmp .eq 412, 3)), (883, (.iconst 0, 1)), (884, (.ireturn, 1)), (885, (.aload_n 1, 1)), (886, (.invokevirtual 112, 3)), (889, (.aload_n 2, 1)), (890, (.invokevirtual 115, 3)), (893, (.if_icmp .eq 399, 3)), (896, (.iconst 0, 1)), (897, (.ireturn, 1)), (898, (.aload_n 1, 1)), (899, (.aload_n 0, 1)), (900, (.iload_n 3, 1)), (901, (.iconst 1, 1)), (902, (.iadd, 1)), (903, (.iaload, 1)), (904, (.aload_n 0, 1)), (905, (.iload_n 3, 1)), (906, (.iconst 2, 1)), (907, (.iadd, 1)), (908, (.iaload, 1)), (909, (.invokevirtual 116, 3)), (912, (.aload_n 2, 1)), (913, (.aload_n 0, 1)), (914, (.iload_n 3, 1)), (915, (.iconst 1, 1)), (916, (.iadd, 1)), (917, (.iaload, 1)), (918, (.aload_n 0, 1)), (919, (.iload_n 3, 1))] := DL.of (by decide +kernel)
set_option maxRecDepth 20000 in
theorem dlL_law_15 : DL cL_law [(920, (.iconst 2, 1)), (921, (.iadd, 1)), (922, (.iaload, 1)), (923, (.invokevirtual 119, 3)), (926, (.if_icmp .eq 366, 3)), (929, (.iconst 0, 1)), (930, (.ireturn, 1)), (931, (.aload_n 1, 1)), (932, (.invokevirtual 120, 3)), (935, (.aload_n 2, 1)), (936, (.invokevirtual 123, 3)), (939, (.if_icmp .eq 353, 3)), (942, (.iconst 0, 1)), (943, (.ireturn, 1)), (944, (.aload_n 1, 1)), (945, (.invokevirtual 124, 3)), (948, (.aload_n 2, 1)), (949, (.invokevirtual 127, 3)), (952, (.if_icmp .eq 340, 3)), (955, (.iconst 0, 1)), (956, (.ireturn, 1)), (957, (.aload_n 1, 1)), (958, (.aload_n 0, 1)), (959, (.iload_n 3, 1)), (960, (.iconst 1, 1)), (961, (.iadd, 1)), (962, (.iaload, 1)), (963, (.aload_n 0, 1)), (964, (.iload_n 3, 1)), (965, (.iconst 2, 1)), (966, (.iadd, 1)), (967, (.iaload, 1)), (968, (.aload_n 0, 1)), (969, (.iload_n 3, 1)), (970, (.iconst 3, 1)), (971, (.iadd, 1)), (972, (.iaload, 1)), (973, (.invokevirtual 128, 3)), (976, (.aload_n 2, 1)), (977, (.aload_n 0, 1))] := DL.of (by decide +kernel)
set_option maxRecDepth 20000 in
theorem dlL_law_16 : DL cL_law [(978, (.iload_n 3, 1)), (979, (.iconst 1, 1)), (980, (.iadd, 1)), (981, (.iaload, 1)), (982, (.aload_n 0, 1)), (983, (.iload_n 3, 1)), (984, (.iconst 2, 1)), (985, (.iadd, 1)), (986, (.iaload, 1)), (987, (.aload_n 0, 1)), (988, (.iload_n 3, 1)), (989, (.iconst 3, 1)), (990, (.iadd, 1)), (991, (.iaload, 1)), (992, (.invokevirtual 131, 3)), (995, (.if_icmp .eq 297, 3)), (998, (.iconst 0, 1)), (999, (.ireturn, 1)), (1000, (.aload_n 1, 1)), (1001, (.aload_n 0, 1)), (1002, (.iload_n 3, 1)), (1003, (.iconst 1, 1)), (1004, (.iadd, 1)), (1005, (.iaload, 1)), (1006, (.invokevirtual 132, 3)), (1009, (.aload_n 2, 1)), (1010, (.aload_n 0, 1)), (1011, (.iload_n 3, 1)), (1012, (.iconst 1, 1)), (1013, (.iadd, 1)), (1014, (.iaload, 1)), (1015, (.invokevirtual 135, 3)), (1018, (.if_icmp .eq 274, 3)), (1021, (.iconst 0, 1)), (1022, (.ireturn, 1)), (1023, (.aload_n 1, 1)), (1024, (.aload_n 0, 1)), (1025, (.iload_n 3, 1)), (1026, (.iconst 1, 1)), (1027, (.iadd, 1))] := DL.of (by decide +kernel)
set_option maxRecDepth 20000 in
theorem dlL_law_17 : DL cL_law [(1028, (.iaload, 1)), (1029, (.aload_n 0, 1)), (1030, (.iload_n 3, 1)), (1031, (.iconst 2, 1)), (1032, (.iadd, 1)), (1033, (.iaload, 1)), (1034, (.invokevirtual 136, 3)), (1037, (.aload_n 2, 1)), (1038, (.aload_n 0, 1)), (1039, (.iload_n 3, 1)), (1040, (.iconst 1, 1)), (1041, (.iadd, 1)), (1042, (.iaload, 1)), (1043, (.aload_n 0, 1)), (1044, (.iload_n 3, 1)), (1045, (.iconst 2, 1)), (1046, (.iadd, 1)), (1047, (.iaload, 1)), (1048, (.invokevirtual 139, 3)), (1051, (.if_icmp .eq 241, 3)), (1054, (.iconst 0, 1)), (1055, (.ireturn, 1)), (1056, (.aload_n 1, 1)), (1057, (.aload_n 0, 1)), (1058, (.iload_n 3, 1)), (1059, (.iconst 1, 1)), (1060, (.iadd, 1)), (1061, (.iaload, 1)), (1062, (.invokevirtual 140, 3)), (1065, (.aload_n 2, 1)), (1066, (.aload_n 0, 1)), (1067, (.iload_n 3, 1)), (1068, (.iconst 1, 1)), (1069, (.iadd, 1)), (1070, (.iaload, 1)), (1071, (.invokevirtual 143, 3)), (1074, (.if_icmp .eq 218, 3)), (1077, (.iconst 0, 1)), (1078, (.ireturn, 1)), (1079, (.aload_n 1, 1))] := DL.of (by decide +kernel)
set_option maxRecDepth 20000 in
theorem dlL_law_18 : DL cL_law [(1080, (.aload_n 0, 1)), (1081, (.iload_n 3, 1)), (1082, (.iconst 1, 1)), (1083, (.iadd, 1)), (1084, (.iaload, 1)), (1085, (.aload_n 0, 1)), (1086, (.iload_n 3, 1)), (1087, (.iconst 2, 1)), (1088, (.iadd, 1)), (1089, (.iaload, 1)), (1090, (.aload_n 0, 1)), (1091, (.iload_n 3, 1)), (1092, (.iconst 3, 1)), (1093, (.iadd, 1)), (1094, (.iaload, 1)), (1095, (.invokevirtual 144, 3)), (1098, (.aload_n 2, 1)), (1099, (.aload_n 0, 1)), (1100, (.iload_n 3, 1)), (1101, (.iconst 1, 1)), (1102, (.iadd, 1)), (1103, (.iaload, 1)), (1104, (.aload_n 0, 1)), (1105, (.iload_n 3, 1)), (1106, (.iconst 2, 1)), (1107, (.iadd, 1)), (1108, (.iaload, 1)), (1109, (.aload_n 0, 1)), (1110, (.iload_n 3, 1)), (1111, (.iconst 3, 1)), (1112, (.iadd, 1)), (1113, (.iaload, 1)), (1114, (.invokevirtual 147, 3)), (1117, (.if_icmp .eq 175, 3)), (1120, (.iconst 0, 1)), (1121, (.ireturn, 1)), (1122, (.aload_n 1, 1)), (1123, (.aload_n 0, 1)), (1124, (.iload_n 3, 1)), (1125, (.iconst 1, 1))] := DL.of (by decide +kernel)
set_option maxRecDepth 20000 in
theorem dlL_law_19 : DL cL_law [(1126, (.iadd, 1)), (1127, (.iaload, 1)), (1128, (.aload_n 0, 1)), (1129, (.iload_n 3, 1)), (1130, (.iconst 2, 1)), (1131, (.iadd, 1)), (1132, (.iaload, 1)), (1133, (.aload_n 0, 1)), (1134, (.iload_n 3, 1)), (1135, (.iconst 3, 1)), (1136, (.iadd, 1)), (1137, (.iaload, 1)), (1138, (.i2l, 1)), (1139, (.bipush 32, 2)), (1141, (.lshl, 1)), (1142, (.aload_n 0, 1)), (1143, (.iload_n 3, 1)), (1144, (.iconst 4, 1)), (1145, (.iadd, 1)), (1146, (.iaload, 1)), (1147, (.i2l, 1)), (1148, (.ldc2_w 148, 3)), (1151, (.land, 1)), (1152, (.lor, 1)), (1153, (.invokevirtual 150, 3)), (1156, (.aload_n 2, 1)), (1157, (.aload_n 0, 1)), (1158, (.iload_n 3, 1)), (1159, (.iconst 1, 1)), (1160, (.iadd, 1)), (1161, (.iaload, 1)), (1162, (.aload_n 0, 1)), (1163, (.iload_n 3, 1)), (1164, (.iconst 2, 1)), (1165, (.iadd, 1)), (1166, (.iaload, 1)), (1167, (.aload_n 0, 1)), (1168, (.iload_n 3, 1)), (1169, (.iconst 3, 1)), (1170, (.iadd, 1))] := DL.of (by decide +kernel)
set_option maxRecDepth 20000 in
theorem dlL_law_20 : DL cL_law [(1171, (.iaload, 1)), (1172, (.i2l, 1)), (1173, (.bipush 32, 2)), (1175, (.lshl, 1)), (1176, (.aload_n 0, 1)), (1177, (.iload_n 3, 1)), (1178, (.iconst 4, 1)), (1179, (.iadd, 1)), (1180, (.iaload, 1)), (1181, (.i2l, 1)), (1182, (.ldc2_w 148, 3)), (1185, (.land, 1)), (1186, (.lor, 1)), (1187, (.invokevirtual 154, 3)), (1190, (.if_icmp .eq 102, 3)), (1193, (.iconst 0, 1)), (1194, (.ireturn, 1)), (1195, (.aload_n 1, 1)), (1196, (.aload_n 0, 1)), (1197, (.iload_n 3, 1)), (1198, (.iconst 1, 1)), (1199, (.iadd, 1)), (1200, (.iaload, 1)), (1201, (.aload_n 0, 1)), (1202, (.iload_n 3, 1)), (1203, (.iconst 2, 1)), (1204, (.iadd, 1)), (1205, (.iaload, 1)), (1206, (.invokevirtual 155, 3)), (1209, (.aload_n 2, 1)), (1210, (.aload_n 0, 1)), (1211, (.iload_n 3, 1)), (1212, (.iconst 1, 1)), (1213, (.iadd, 1)), (1214, (.iaload, 1)), (1215, (.aload_n 0, 1)), (1216, (.iload_n 3, 1)), (1217, (.iconst 2, 1)), (1218, (.iadd, 1)), (1219, (.iaload, 1))] := DL.of (by decide +kernel)
set_option maxRecDepth 20000 in
theorem dlL_law_21 : DL cL_law [(1220, (.invokevirtual 158, 3)), (1223, (.lcmp, 1)), (1224, (.ifCond .eq 68, 3)), (1227, (.iconst 0, 1)), (1228, (.ireturn, 1)), (1229, (.aload_n 1, 1)), (1230, (.aload_n 0, 1)), (1231, (.iload_n 3, 1)), (1232, (.iconst 1, 1)), (1233, (.iadd, 1)), (1234, (.iaload, 1)), (1235, (.aload_n 0, 1)), (1236, (.iload_n 3, 1)), (1237, (.iconst 2, 1)), (1238, (.iadd, 1)), (1239, (.iaload, 1)), (1240, (.aload_n 0, 1)), (1241, (.iload_n 3, 1)), (1242, (.iconst 3, 1)), (1243, (.iadd, 1)), (1244, (.iaload, 1)), (1245, (.aload_n 0, 1)), (1246, (.iload_n 3, 1)), (1247, (.iconst 4, 1)), (1248, (.iadd, 1)), (1249, (.iaload, 1)), (1250, (.aload_n 0, 1)), (1251, (.iload_n 3, 1)), (1252, (.iconst 5, 1)), (1253, (.iadd, 1)), (1254, (.iaload, 1)), (1255, (.invokevirtual 159, 3)), (1258, (.aload_n 2, 1)), (1259, (.aload_n 0, 1)), (1260, (.iload_n 3, 1)), (1261, (.iconst 1, 1)), (1262, (.iadd, 1)), (1263, (.iaload, 1)), (1264, (.aload_n 0, 1)), (1265, (.iload_n 3, 1))] := DL.of (by decide +kernel)
set_option maxRecDepth 20000 in
theorem dlL_law_22 : DL cL_law [(1266, (.iconst 2, 1)), (1267, (.iadd, 1)), (1268, (.iaload, 1)), (1269, (.aload_n 0, 1)), (1270, (.iload_n 3, 1)), (1271, (.iconst 3, 1)), (1272, (.iadd, 1)), (1273, (.iaload, 1)), (1274, (.aload_n 0, 1)), (1275, (.iload_n 3, 1)), (1276, (.iconst 4, 1)), (1277, (.iadd, 1)), (1278, (.iaload, 1)), (1279, (.aload_n 0, 1)), (1280, (.iload_n 3, 1)), (1281, (.iconst 5, 1)), (1282, (.iadd, 1)), (1283, (.iaload, 1)), (1284, (.invokevirtual 163, 3)), (1287, (.if_icmp .eq 5, 3)), (1290, (.iconst 0, 1)), (1291, (.ireturn, 1)), (1292, (.iinc 3 6, 3)), (1295, (.goto (-1277), 3)), (1298, (.iconst 1, 1)), (1299, (.ireturn, 1))] := DL.of (by decide +kernel)
end
section
-- the tables: the words that go down with a call, and those of nest mates
def isNest : Cond → Bool
  | .fieldLinkNest .. => true
  | .methodLinkNest .. => true
  | _ => false
def TG : List Cond := lw_tbl.filter goodWord
def TN : List Cond := lw_tbl.filter isNest
theorem inTG {wd : Cond} (i : Nat) (h : lw_tbl[i]? = some wd) (hg : goodWord wd = true) : wd ∈ TG := List.mem_filter.mpr ⟨List.mem_of_getElem? h, hg⟩
theorem inTN {wd : Cond} (i : Nat) (h : lw_tbl[i]? = some wd) (hg : isNest wd = true) : wd ∈ TN := List.mem_filter.mpr ⟨List.mem_of_getElem? h, hg⟩
theorem subTG (ws : List Cond) (ps : List Nat) (h : ws = ps.filterMap (fun i => lw_tbl[i]?)) (hg : ws.all goodWord = true) : ∀ wd ∈ ws, wd ∈ TG := by
  intro wd hw
  refine List.mem_filter.mpr ⟨?_, List.all_eq_true.mp hg wd hw⟩
  rw [h] at hw
  obtain ⟨i, -, hi⟩ := List.mem_filterMap.mp hw
  exact List.mem_of_getElem? hi
theorem TG_good : ∀ wd ∈ TG, goodWord wd = true := fun wd h => (List.mem_filter.mp h).2
theorem goodTG : ∀ wd ∈ TG, wd ∈ TG ∧ ((wd.onTables && wd.keeps) = true ∨ ∃ ty, wd = .arrayClass ty) := fun wd h => ⟨h, good_of_word (TG_good wd h)⟩
theorem TN_moved {s U : State} (hW : s.WarmedH U.vm) (h : ∀ wd ∈ TN, va_Nw wd s) : ∀ wd ∈ TN, va_Nw wd U := by
  intro wd hw
  have h1 := h wd hw
  have h2 := (List.mem_filter.mp hw).2
  cases wd <;> first | exact va_Nw.warmF hW h1 | exact va_Nw.warmM hW h1 | cases h2
-- worlds by number
def wl (b N : Nat) (G : Nat → va_E) : va_W := (List.range N).map (fun k => (b + k, G k))
theorem wl_len (b N : Nat) (G : Nat → va_E) : (wl b N G).length = N := by simp [wl]
theorem wl_get {b N : Nat} {G : Nat → va_E} {k : Nat} (h : k < N) : (wl b N G)[k]? = some (b + k, G k) := by simp [wl, h]
theorem wl_some {b N : Nat} {G : Nat → va_E} {k : Nat} {q : Nat × va_E} (h : (wl b N G)[k]? = some q) : k < N ∧ q = (b + k, G k) := by
  have hk : k < N := by have := (List.getElem?_eq_some_iff.mp h).1; rwa [wl_len] at this
  rw [wl_get hk] at h
  exact ⟨hk, (Option.some.inj h).symm⟩
theorem wl_set {b N : Nat} {G : Nat → va_E} {k : Nat} (e : va_E) (h : k < N) : (wl b N G).set k (b + k, e) = wl b N (va_up G k e) := by
  apply List.ext_getElem?
  intro i
  rw [List.getElem?_set]
  by_cases hi : i < N
  · by_cases hk : k = i
    · subst hk
      rw [if_pos rfl, wl_len, if_pos hi, wl_get hi]; simp [va_up]
    · rw [if_neg hk, wl_get hi, wl_get hi]
      simp [va_up, Ne.symm hk]
  · have h1 : (wl b N G)[i]? = none := by simp [wl_len]; omega
    have h2 : (wl b N (va_up G k e))[i]? = none := by simp [wl_len]; omega
    have h3 : k ≠ i := by omega
    rw [if_neg h3, h1, h2]
theorem wl_push {b N : Nat} {G : Nat → va_E} (e : va_E) : wl b N G ++ [(b + N, e)] = wl b (N + 1) (va_up G N e) := by
  unfold wl
  rw [List.range_succ, List.map_append]
  congr 1
  · apply List.map_congr_left
    intro k hk
    have : k ≠ N := Nat.ne_of_lt (List.mem_range.mp hk)
    simp [va_up, this]
  · simp [va_up]
theorem wl_D (b N : Nat) (G : Nat → va_E) : va_D (fun q => b ≤ q) (wl b N G) := by
  refine ⟨fun i j p q hi hj h => ?_, fun k q h => ?_⟩
  · obtain ⟨-, rfl⟩ := wl_some hi
    obtain ⟨-, rfl⟩ := wl_some hj
    simp at h; exact h
  · obtain ⟨-, rfl⟩ := wl_some h
    exact Nat.le_add_right _ _
theorem wl_P_congr {D : va_G} {cl : List vw_C} {b N : Nat} {G G' : Nat → va_E} {H : Heap} (h : ∀ k, k < N → G k = G' k) (hP : va_P D cl (wl b N G) H) : va_P D cl (wl b N G') H := by
  intro k q hq
  obtain ⟨hk, rfl⟩ := wl_some hq
  have := hP k _ (wl_get (G := G) hk)
  rw [h k hk] at this
  exact this
-- what a method's walk stands in
abbrev Ev : Type := va_G × (Nat → ClassId) × Nat × (Nat → Nat) × Bool
abbrev Cx : Type := Program × Launch × Env × Room × State × MethodId × Array Value × List Frame × Method × Code × (State → Prop)
def rf (V : Ev) (k : Nat) : Value := .ref (V.2.2.1 + k)
def sf (V : Ev) (j : Nat) : Value := .ref (V.2.2.2.1 j)
def rq (V : Ev) (o : Option Nat) : Value := match o with | none => .null | some k => rf V k
def tysOf (ac : Nat → ClassId) : List (ClassId × FieldType) := [(ac 0, .byte), (ac 1, .int), (ac 2, .long), (ac 3, .boolean), (ac 4, .object RX2), (ac 5, .object RX3), (ac 6, .object RX8)]
def aboveL : List Int32 := [-1, 0, 0, 0, 1, 2, 3]
def bodiesL : List Int32 := [10, 11, 12, 0, 20, 0, 30, 0, 0, 0, 0, 40, 50, 51, 0, 0, 0, 60, 71, 70, 0]
def strL : List (List Int32) := [[112, 97, 99, 101], [110, 101, 119, 115], [104, 117, 115, 104], [99, 107, 118, 100, 116, 104], [60, 61, 62]]
def strN : List Nat := [4, 4, 4, 6, 3]
def aboveF (j : Nat) : Int32 := aboveL.getD j 0
def bodiesF (j : Nat) : Int32 := bodiesL.getD j 0
/-- what lies in the heap from before: static arrays, String constants, statics of the JDK's -/
def XS (V : Ev) (U : State) (H : Heap) : Prop :=
  (va_Z RX9 "ABOVE" "[I" (sf V 0) (fun q => V.2.2.1 ≤ q) U H ∧ va_T .int (V.2.2.2.1 0) 7 (fun j => .int (aboveF j)) (fun q => V.2.2.1 ≤ q) U H ∧
   va_Z RX0 "BODIES" "[I" (sf V 1) (fun q => V.2.2.1 ≤ q) U H ∧ va_T .int (V.2.2.2.1 1) 21 (fun j => .int (bodiesF j)) (fun q => V.2.2.1 ≤ q) U H) ∧
  (vk_S 5 strN strL (fun i => V.2.2.2.1 (2 * i + 2)) (fun i => V.2.2.2.1 (2 * i + 3)) (fun q => V.2.2.1 ≤ q) U H ∧
   vk_R RX5 55 "pace" (V.2.2.2.1 2) U ∧ vk_R RX5 72 "news" (V.2.2.2.1 4) U ∧ vk_R RX5 74 "hush" (V.2.2.2.1 6) U ∧ vk_R RX5 96 "ckvdth" (V.2.2.2.1 8) U ∧ vk_R RX5 102 "<=>" (V.2.2.2.1 10) U) ∧
  (va_Z "java/lang/String" "COMPACT_STRINGS" "Z" (.int 1) (fun q => V.2.2.1 ≤ q) U H ∧ va_Zq "jdk/internal/util/Preconditions" "SIOOBE_FORMATTER" "Ljava/util/function/BiFunction;" (fun q => V.2.2.1 ≤ q) U H)
def ST (V : Ev) (U : State) (H : Heap) : Prop := va_K V.1 vwCl (tysOf V.2.1) U ∧ (∀ wd ∈ TN, va_Nw wd U) ∧ XS V U H
theorem XS.kept {V : Ev} {U : State} {H H1 : Heap} (h : XS V U H) (hq : ∀ a : Nat, a < H.size → ¬ V.2.2.1 ≤ a → H1[a]? = H[a]?) : XS V U H1 := by
  obtain ⟨⟨a1, a2, a3, a4⟩, ⟨b1, b2⟩, c1, c2⟩ := h
  exact ⟨⟨a1.kept hq, a2.kept hq, a3.kept hq, a4.kept hq⟩, ⟨b1.kept hq, b2⟩, c1.kept hq, c2.kept hq⟩
theorem XS.warm {V : Ev} {s U : State} {H : Heap} (hW : s.WarmedH U.vm) (h : XS V s H) : XS V U H := by
  obtain ⟨⟨a1, a2, a3, a4⟩, ⟨b1, b2, b3, b4, b5, b6⟩, c1, c2⟩ := h
  exact ⟨⟨a1.moved hW.alike, a2.moved hW.alike, a3.moved hW.alike, a4.moved hW.alike⟩, ⟨b1.moved hW.alike, b2.warm hW, b3.warm hW, b4.warm hW, b5.warm hW, b6.warm hW⟩, c1.moved hW.alike, c2.moved hW.alike⟩
theorem ST.kept {V : Ev} {U : State} {H H1 : Heap} (h : ST V U H) (hq : ∀ a : Nat, a < H.size → ¬ V.2.2.1 ≤ a → H1[a]? = H[a]?) : ST V U H1 := ⟨h.1, h.2.1, h.2.2.kept hq⟩
theorem ST.warm {V : Ev} {s U : State} {H : Heap} (hW : s.WarmedH U.vm) (h : ST V s H) : ST V U H := ⟨h.1.moved hW.alike, TN_moved hW h.2.1, h.2.2.warm hW⟩
/-- while objects are made, the heap's size is known -/
def SZ (V : Ev) (N : Nat) (H : Heap) : Prop := V.2.2.2.2 = true → H.size = V.2.2.1 + N
/-- a state that holds the world G of N cells from V's base on -/
def SW (V : Ev) (N : Nat) (G : Nat → va_E) (U : State) : Prop := va_P V.1 vwCl (wl V.2.2.1 N G) U.heap ∧ SZ V N U.heap ∧ V.2.2.1 ≤ U.heap.size ∧ ST V U U.heap
def QcM (V : Ev) (N : Nat) (G : Nat → va_E) (ov : Option Value) : Array Value → State → Outcome → State → Prop := fun _ st oc t =>
  oc = .returned ov ∧ SW V N G t ∧ va_F (fun q => V.2.2.1 ≤ q) st t
def RM (k mc ms : Nat) : Room := { frames := k, cells := mc, slots := ms, locals := 64 * k }
/-- a contract -/
def Ctr (l : Launch) (V : Ev) (y : MethodName) (cc : ByteArray) (nL : Nat) (ret : Option FieldType) (k : Nat) (av : List Value) (N : Nat) (G : Nat → va_E) (N' : Nat) (G' : Nat → va_E) (ov : Option Value) (mc ms : Nat) : Prop :=
  Met l y (.code y cc nL ret :: TG) (RM k mc ms) (va_Pc av (SW V N G)) (QcM V N' G' ov) mc ms (fun q => V.2.2.1 ≤ q)
/-- the judgement at a frame: the world is G of N cells -/
def PW : Cx → Ev → Nat → Nat → Nat → (Nat → va_E) → Nat → List (Nat × Value) → List Value → Prop
  | (p, l, e, R, s, m, args, below, meth, c, Q), V, nc, ns, N, G, pc, lv, st =>
    ∀ (H : Heap) (locs : List Loc) (ls : Array Slot), va_P V.1 vwCl (wl V.2.2.1 N G) H → SZ V N H → va_S (fun q => V.2.2.1 ≤ q) s.heap H locs → lv_has ls c.maxLocals lv →
      W p l e R s m args below meth c H locs nc ns Q (F0 m pc ls st)
/-- what the walk knows of its method -/
def CX : Cx → Ev → Launch → ByteArray → String → Nat → Nat → Nat → Nat → Option FieldType → Prop
  | (p, l, e, R, s, m, args, below, meth, c, Q), V, l', cc, own, nL, k, rc, rs, ret =>
    p.tables.exec = Jvm.exec ∧ c.code = cc ∧ c.maxLocals = nL ∧ s.vm.findClass own = some m.cls ∧ (∀ wd ∈ TG, wd.before args s = true) ∧ ST V s s.heap ∧ k ≤ R.frames ∧ 64 * k ≤ R.locals ∧ V.2.2.1 ≤ s.heap.size ∧ rc ≤ R.cells ∧ rs ≤ R.slots ∧ meth.locks = false ∧ meth.sig.returnType = ret ∧ l = l'
/-- what it owes at its end -/
def RQ : Cx → Ev → Nat → (Nat → va_E) → Option Value → Nat → Nat → Prop
  | (p, l, e, R, s, m, args, below, meth, c, Q), V, N, G, ov, mc, ms => Q = MQ below (QcM V N G ov) args s mc ms (fun q => V.2.2.1 ≤ q)
def INI : Cx → Prop
  | (p, l, e, R, s, m, args, below, meth, c, Q) => meth.name = "<init>"
theorem Ctr.intro {l : Launch} {V : Ev} {y : MethodName} {cc : ByteArray} {nL : Nat} {ret : Option FieldType} {k : Nat} {av : List Value} {N N' mc ms : Nat} {G G' : Nat → va_E} {ov : Option Value} (own : String) (hpl : plainName y.cls = true) (hown : y.cls = own) (hlen : Nat.ble (lg_sl av).length nL = true) {lv : List (Nat × Value)} (hlv : lv_args 0 av = lv)
    (body : ∀ E : Cx, CX E V l cc own nL k mc ms ret → RQ E V N' G' ov mc ms → (y.name = "<init>" → INI E) → PW E V 0 0 N G 0 lv []) : Ctr l V y cc nL ret k av N G N' G' ov mc ms := by
  refine Met.ofW (cc := cc) (maxL := nL) (ret := ret) hpl rfl ?_
  intro p e s m args below meth c s₁ B hml hv
  obtain ⟨rfl, hP, hsz, hbs, hT⟩ := hv
  have hts := atoms_spec (ws := Cond.code y cc nL ret :: TG) B.pre
  have hfc : s.vm.findClass own = some m.cls := by rw [← hown]; exact findClass_of_methodNamed B.named
  have h := body (p, l, e, RM k mc ms, s, m, av.toArray, below, meth, c, MQ below (QcM V N' G' ov) av.toArray s mc ms (fun q => V.2.2.1 ≤ q))
    ⟨B.exec, B.bytes, hml, hfc, fun wd hw => hts wd (List.mem_cons_of_mem _ hw), hT, Nat.le_refl _, Nat.le_refl _, hbs, Nat.le_refl _, Nat.le_refl _, B.notSynchronized, B.returns, rfl⟩ rfl
    (fun hn => by
      show meth.name = "<init>"
      rw [← hn]; exact (name_of_methodNamed B.named B.method).1)
  have hl := lv_entry av (n := nL) (Nat.le_of_ble_eq_true hlen)
  rw [lg_entry_eq]
  rw [hlv] at hl
  refine h s.heap [] _ hP hsz va_S.rf ?_
  rw [hml]; exact hl
-- locals, by a list that stays in order
def lst (i : Nat) (v : Value) (lv : List (Nat × Value)) : List (Nat × Value) :=
  (lv.filter fun q => Nat.ble (q.1 + 1) i && !(q.1 + 1 == i && q.2.category == 2)) ++ (i, v) :: lv.filter fun q => Nat.ble (i + 1) q.1
def lst2 (i : Nat) (v : Value) (lv : List (Nat × Value)) : List (Nat × Value) :=
  (lv.filter fun q => Nat.ble (q.1 + 1) i && !(q.1 + 1 == i && q.2.category == 2)) ++ (i, v) :: lv.filter fun q => Nat.ble (i + 2) q.1
theorem lst_in {i : Nat} {v : Value} {lv : List (Nat × Value)} {q : Nat × Value} (h : q ∈ lst i v lv) : q ∈ (i, v) :: lv.filter (fun q => !(q.1 == i) && !(q.1 + 1 == i && q.2.category == 2)) := by
  unfold lst at h
  rcases List.mem_append.mp h with h | h
  · obtain ⟨h1, h2⟩ := List.mem_filter.mp h
    rw [Bool.and_eq_true] at h2
    have h3 : q.1 + 1 ≤ i := Nat.le_of_ble_eq_true h2.1
    refine List.mem_cons_of_mem _ (List.mem_filter.mpr ⟨h1, ?_⟩)
    rw [Bool.and_eq_true]
    exact ⟨by simp; omega, h2.2⟩
  · rcases List.mem_cons.mp h with h | h
    · rw [h]; exact List.mem_cons_self
    · obtain ⟨h1, h2⟩ := List.mem_filter.mp h
      have h3 : i + 1 ≤ q.1 := Nat.le_of_ble_eq_true h2
      refine List.mem_cons_of_mem _ (List.mem_filter.mpr ⟨h1, ?_⟩)
      simp; exact ⟨by omega, Or.inl (by omega)⟩
theorem lst2_in {i : Nat} {v : Value} {lv : List (Nat × Value)} {q : Nat × Value} (h : q ∈ lst2 i v lv) : q ∈ (i, v) :: lv.filter (fun q => !(q.1 == i) && (!(q.1 == i + 1) && !(q.1 + 1 == i && q.2.category == 2))) := by
  unfold lst2 at h
  rcases List.mem_append.mp h with h | h
  · obtain ⟨h1, h2⟩ := List.mem_filter.mp h
    rw [Bool.and_eq_true] at h2
    have h3 : q.1 + 1 ≤ i := Nat.le_of_ble_eq_true h2.1
    refine List.mem_cons_of_mem _ (List.mem_filter.mpr ⟨h1, ?_⟩)
    rw [Bool.and_eq_true, Bool.and_eq_true]
    exact ⟨by simp; omega, by simp; omega, h2.2⟩
  · rcases List.mem_cons.mp h with h | h
    · rw [h]; exact List.mem_cons_self
    · obtain ⟨h1, h2⟩ := List.mem_filter.mp h
      have h3 : i + 2 ≤ q.1 := Nat.le_of_ble_eq_true h2
      refine List.mem_cons_of_mem _ (List.mem_filter.mpr ⟨h1, ?_⟩)
      simp; exact ⟨by omega, by omega, Or.inl (by omega)⟩
theorem lv_less {ls : Array Slot} {n : Nat} {L L' : List (Nat × Value)} (h : lv_has ls n L) (hs : ∀ q ∈ L', q ∈ L) : lv_has ls n L' := ⟨h.1, h.2.1, fun q hq => h.2.2 q (hs q hq)⟩
/-- whether an index lies in an array of n -/
def inb (i : Int32) (n : Nat) : Bool := decide (0 ≤ i.toInt) && decide (i.toInt < n)
theorem inb_in {i : Int32} {n : Nat} (h : inb i n = true) : vp_in i n := by
  unfold inb at h
  rw [Bool.and_eq_true, decide_eq_true_eq, decide_eq_true_eq] at h
  exact vp_in_iff.mpr h
def ix (i : Int32) : Nat := i.toNatClampNeg
/-- calls in the pure text -/
def bnd {A P B : Type} (q : Option (A × P)) (K : A → P → Option B) : Option B := match q with
  | none => none
  | some x => K x.1 x.2
theorem bnd_some {A P B : Type} (x : A) (y : P) (K : A → P → Option B) : bnd (some (x, y)) K = K x y := rfl
section Rows
variable {E : Cx} {V : Ev} {l : Launch} {cc : ByteArray} {own : String} {nL kR rc rs nc ns N : Nat} {ret : Option FieldType} {G : Nat → va_E} {pc : Nat} {lv : List (Nat × Value)} {st : List Value}
theorem q_iadd (hE : CX E V l cc own nL kR rc rs ret) {x y : Int32} (hd : decode cc pc = .ok (.iadd, 1)) (kk : PW E V nc ns N G (pc + 1) lv (.int (x + y) :: st)) : PW E V nc ns N G pc lv (.int y :: .int x :: st) := by
  obtain ⟨p, l0, e, R, s, m, args, below, meth, c, Q⟩ := E
  intro H locs ls h1 h2 h3 h4
  exact lv_iadd hE.1 hE.2.1 hd (kk H locs ls h1 h2 h3 h4)
theorem q_isub (hE : CX E V l cc own nL kR rc rs ret) {x y : Int32} (hd : decode cc pc = .ok (.isub, 1)) (kk : PW E V nc ns N G (pc + 1) lv (.int (x - y) :: st)) : PW E V nc ns N G pc lv (.int y :: .int x :: st) := by
  obtain ⟨p, l0, e, R, s, m, args, below, meth, c, Q⟩ := E
  intro H locs ls h1 h2 h3 h4
  exact lv_isub hE.1 hE.2.1 hd (kk H locs ls h1 h2 h3 h4)
theorem q_imul (hE : CX E V l cc own nL kR rc rs ret) {x y : Int32} (hd : decode cc pc = .ok (.imul, 1)) (kk : PW E V nc ns N G (pc + 1) lv (.int (x * y) :: st)) : PW E V nc ns N G pc lv (.int y :: .int x :: st) := by
  obtain ⟨p, l0, e, R, s, m, args, below, meth, c, Q⟩ := E
  intro H locs ls h1 h2 h3 h4
  exact lv_imul hE.1 hE.2.1 hd (kk H locs ls h1 h2 h3 h4)
theorem q_iand (hE : CX E V l cc own nL kR rc rs ret) {x y : Int32} (hd : decode cc pc = .ok (.iand, 1)) (kk : PW E V nc ns N G (pc + 1) lv (.int (x &&& y) :: st)) : PW E V nc ns N G pc lv (.int y :: .int x :: st) := by
  obtain ⟨p, l0, e, R, s, m, args, below, meth, c, Q⟩ := E
  intro H locs ls h1 h2 h3 h4
  exact lv_iand hE.1 hE.2.1 hd (kk H locs ls h1 h2 h3 h4)
theorem q_ior (hE : CX E V l cc own nL kR rc rs ret) {x y : Int32} (hd : decode cc pc = .ok (.ior, 1)) (kk : PW E V nc ns N G (pc + 1) lv (.int (x ||| y) :: st)) : PW E V nc ns N G pc lv (.int y :: .int x :: st) := by
  obtain ⟨p, l0, e, R, s, m, args, below, meth, c, Q⟩ := E
  intro H locs ls h1 h2 h3 h4
  exact lv_ior hE.1 hE.2.1 hd (kk H locs ls h1 h2 h3 h4)
theorem q_ixor (hE : CX E V l cc own nL kR rc rs ret) {x y : Int32} (hd : decode cc pc = .ok (.ixor, 1)) (kk : PW E V nc ns N G (pc + 1) lv (.int (x ^^^ y) :: st)) : PW E V nc ns N G pc lv (.int y :: .int x :: st) := by
  obtain ⟨p, l0, e, R, s, m, args, below, meth, c, Q⟩ := E
  intro H locs ls h1 h2 h3 h4
  exact lv_ixor hE.1 hE.2.1 hd (kk H locs ls h1 h2 h3 h4)
theorem q_ishl (hE : CX E V l cc own nL kR rc rs ret) {x y : Int32} (hd : decode cc pc = .ok (.ishl, 1)) (kk : PW E V nc ns N G (pc + 1) lv (.int (x <<< (y &&& 31)) :: st)) : PW E V nc ns N G pc lv (.int y :: .int x :: st) := by
  obtain ⟨p, l0, e, R, s, m, args, below, meth, c, Q⟩ := E
  intro H locs ls h1 h2 h3 h4
  exact lv_ishl hE.1 hE.2.1 hd (kk H locs ls h1 h2 h3 h4)
theorem q_ishr (hE : CX E V l cc own nL kR rc rs ret) {x y : Int32} (hd : decode cc pc = .ok (.ishr, 1)) (kk : PW E V nc ns N G (pc + 1) lv (.int (x >>> (y &&& 31)) :: st)) : PW E V nc ns N G pc lv (.int y :: .int x :: st) := by
  obtain ⟨p, l0, e, R, s, m, args, below, meth, c, Q⟩ := E
  intro H locs ls h1 h2 h3 h4
  exact lv_ishr hE.1 hE.2.1 hd (kk H locs ls h1 h2 h3 h4)
theorem q_land (hE : CX E V l cc own nL kR rc rs ret) {x y : Int64} (hd : decode cc pc = .ok (.land, 1)) (kk : PW E V nc ns N G (pc + 1) lv (.long (x &&& y) :: st)) : PW E V nc ns N G pc lv (.long y :: .long x :: st) := by
  obtain ⟨p, l0, e, R, s, m, args, below, meth, c, Q⟩ := E
  intro H locs ls h1 h2 h3 h4
  exact lv_land hE.1 hE.2.1 hd (kk H locs ls h1 h2 h3 h4)
theorem q_lor (hE : CX E V l cc own nL kR rc rs ret) {x y : Int64} (hd : decode cc pc = .ok (.lor, 1)) (kk : PW E V nc ns N G (pc + 1) lv (.long (x ||| y) :: st)) : PW E V nc ns N G pc lv (.long y :: .long x :: st) := by
  obtain ⟨p, l0, e, R, s, m, args, below, meth, c, Q⟩ := E
  intro H locs ls h1 h2 h3 h4
  exact lv_lor hE.1 hE.2.1 hd (kk H locs ls h1 h2 h3 h4)
theorem q_lshl (hE : CX E V l cc own nL kR rc rs ret) {x : Int64} {y : Int32} (hd : decode cc pc = .ok (.lshl, 1)) (kk : PW E V nc ns N G (pc + 1) lv (.long (x <<< (y.toInt64 &&& 63)) :: st)) : PW E V nc ns N G pc lv (.int y :: .long x :: st) := by
  obtain ⟨p, l0, e, R, s, m, args, below, meth, c, Q⟩ := E
  intro H locs ls h1 h2 h3 h4
  exact lv_lshl hE.1 hE.2.1 hd rfl (kk H locs ls h1 h2 h3 h4)
theorem q_lcmp (hE : CX E V l cc own nL kR rc rs ret) {x y : Int64} (hd : decode cc pc = .ok (.lcmp, 1)) (kk : PW E V nc ns N G (pc + 1) lv (.int (lg_cmp x y) :: st)) : PW E V nc ns N G pc lv (.long y :: .long x :: st) := by
  obtain ⟨p, l0, e, R, s, m, args, below, meth, c, Q⟩ := E
  intro H locs ls h1 h2 h3 h4
  exact W.lcmp hE.1 hE.2.1 hd (kk H locs ls h1 h2 h3 h4)
theorem q_ineg (hE : CX E V l cc own nL kR rc rs ret) {x : Int32} (hd : decode cc pc = .ok (.ineg, 1)) (kk : PW E V nc ns N G (pc + 1) lv (.int (-x) :: st)) : PW E V nc ns N G pc lv (.int x :: st) := by
  obtain ⟨p, l0, e, R, s, m, args, below, meth, c, Q⟩ := E
  intro H locs ls h1 h2 h3 h4
  exact lv_ineg hE.1 hE.2.1 hd (kk H locs ls h1 h2 h3 h4)
theorem q_i2l (hE : CX E V l cc own nL kR rc rs ret) {x : Int32} (hd : decode cc pc = .ok (.i2l, 1)) (kk : PW E V nc ns N G (pc + 1) lv (.long (x.toInt64) :: st)) : PW E V nc ns N G pc lv (.int x :: st) := by
  obtain ⟨p, l0, e, R, s, m, args, below, meth, c, Q⟩ := E
  intro H locs ls h1 h2 h3 h4
  exact lv_i2l hE.1 hE.2.1 hd rfl (kk H locs ls h1 h2 h3 h4)
theorem q_l2i (hE : CX E V l cc own nL kR rc rs ret) {x : Int64} (hd : decode cc pc = .ok (.l2i, 1)) (kk : PW E V nc ns N G (pc + 1) lv (.int (x.toInt32) :: st)) : PW E V nc ns N G pc lv (.long x :: st) := by
  obtain ⟨p, l0, e, R, s, m, args, below, meth, c, Q⟩ := E
  intro H locs ls h1 h2 h3 h4
  exact lv_l2i hE.1 hE.2.1 hd rfl (kk H locs ls h1 h2 h3 h4)
theorem q_i2b (hE : CX E V l cc own nL kR rc rs ret) {x : Int32} (hd : decode cc pc = .ok (.i2b, 1)) (kk : PW E V nc ns N G (pc + 1) lv (.int (x.toInt8.toInt32) :: st)) : PW E V nc ns N G pc lv (.int x :: st) := by
  obtain ⟨p, l0, e, R, s, m, args, below, meth, c, Q⟩ := E
  intro H locs ls h1 h2 h3 h4
  exact lv_i2b hE.1 hE.2.1 hd rfl (kk H locs ls h1 h2 h3 h4)
theorem q_i2s (hE : CX E V l cc own nL kR rc rs ret) {x : Int32} (hd : decode cc pc = .ok (.i2s, 1)) (kk : PW E V nc ns N G (pc + 1) lv (.int (x.toInt16.toInt32) :: st)) : PW E V nc ns N G pc lv (.int x :: st) := by
  obtain ⟨p, l0, e, R, s, m, args, below, meth, c, Q⟩ := E
  intro H locs ls h1 h2 h3 h4
  exact lv_i2s hE.1 hE.2.1 hd rfl (kk H locs ls h1 h2 h3 h4)
theorem q_i2c (hE : CX E V l cc own nL kR rc rs ret) {x : Int32} (hd : decode cc pc = .ok (.i2c, 1)) (kk : PW E V nc ns N G (pc + 1) lv (.int ((x.toUInt32 % 65536).toInt32) :: st)) : PW E V nc ns N G pc lv (.int x :: st) := by
  obtain ⟨p, l0, e, R, s, m, args, below, meth, c, Q⟩ := E
  intro H locs ls h1 h2 h3 h4
  exact lv_i2c hE.1 hE.2.1 hd rfl (kk H locs ls h1 h2 h3 h4)
theorem q_idiv (hE : CX E V l cc own nL kR rc rs ret) {x y : Int32} {B : Type} {A : Option B} {r : B} (hd : decode cc pc = .ok (.idiv, 1)) (hm : (if y = 0 then none else A) = some r) (kk : A = some r → PW E V nc ns N G (pc + 1) lv (.int (x / y) :: st)) : PW E V nc ns N G pc lv (.int y :: .int x :: st) := by
  obtain ⟨p, l0, e, R, s, m, args, below, meth, c, Q⟩ := E
  intro H locs ls h1 h2 h3 h4
  by_cases hy : y = 0
  · rw [if_pos hy] at hm; cases hm
  · rw [if_neg hy] at hm
    exact lv_idiv hE.1 hE.2.1 hd hy (kk hm H locs ls h1 h2 h3 h4)
theorem q_irem (hE : CX E V l cc own nL kR rc rs ret) {x y : Int32} {B : Type} {A : Option B} {r : B} (hd : decode cc pc = .ok (.irem, 1)) (hm : (if y = 0 then none else A) = some r) (kk : A = some r → PW E V nc ns N G (pc + 1) lv (.int (x - x / y * y) :: st)) : PW E V nc ns N G pc lv (.int y :: .int x :: st) := by
  obtain ⟨p, l0, e, R, s, m, args, below, meth, c, Q⟩ := E
  intro H locs ls h1 h2 h3 h4
  by_cases hy : y = 0
  · rw [if_pos hy] at hm; cases hm
  · rw [if_neg hy] at hm
    exact lv_irem hE.1 hE.2.1 hd hy (kk hm H locs ls h1 h2 h3 h4)
theorem q_iconst (hE : CX E V l cc own nL kR rc rs ret) {n : Int} {v : Int32} (hd : decode cc pc = .ok (.iconst n, 1)) (hv : Int32.ofInt n = v) (kk : PW E V nc ns N G (pc + 1) lv (.int v :: st)) : PW E V nc ns N G pc lv st := by
  obtain ⟨p, l0, e, R, s, m, args, below, meth, c, Q⟩ := E
  intro H locs ls h1 h2 h3 h4
  exact lv_iconst hE.1 hE.2.1 hd hv (kk H locs ls h1 h2 h3 h4)
theorem q_bipush (hE : CX E V l cc own nL kR rc rs ret) {n : Int} {v : Int32} (hd : decode cc pc = .ok (.bipush n, 2)) (hv : (Int8.ofInt n).toInt32 = v) (kk : PW E V nc ns N G (pc + 2) lv (.int v :: st)) : PW E V nc ns N G pc lv st := by
  obtain ⟨p, l0, e, R, s, m, args, below, meth, c, Q⟩ := E
  intro H locs ls h1 h2 h3 h4
  exact lv_bipush hE.1 hE.2.1 hd hv (kk H locs ls h1 h2 h3 h4)
theorem q_sipush (hE : CX E V l cc own nL kR rc rs ret) {n : Int} {v : Int32} (hd : decode cc pc = .ok (.sipush n, 3)) (hv : (Int16.ofInt n).toInt32 = v) (kk : PW E V nc ns N G (pc + 3) lv (.int v :: st)) : PW E V nc ns N G pc lv st := by
  obtain ⟨p, l0, e, R, s, m, args, below, meth, c, Q⟩ := E
  intro H locs ls h1 h2 h3 h4
  exact lv_sipush hE.1 hE.2.1 hd hv (kk H locs ls h1 h2 h3 h4)
theorem q_lconst (hE : CX E V l cc own nL kR rc rs ret) {n : Fin 2} {v : Int64} (hd : decode cc pc = .ok (.lconst n, 1)) (hv : Int64.ofNat (n : Nat) = v) (kk : PW E V nc ns N G (pc + 1) lv (.long v :: st)) : PW E V nc ns N G pc lv st := by
  obtain ⟨p, l0, e, R, s, m, args, below, meth, c, Q⟩ := E
  intro H locs ls h1 h2 h3 h4
  exact lv_lconst hE.1 hE.2.1 hd hv (kk H locs ls h1 h2 h3 h4)
theorem q_ldc (hE : CX E V l cc own nL kR rc rs ret) {index : Nat} {v : Int32} (hd : decode cc pc = .ok (.ldc index, 2)) (hw : Cond.constant own index v ∈ TG) (kk : PW E V nc ns N G (pc + 2) lv (.int v :: st)) : PW E V nc ns N G pc lv st := by
  obtain ⟨p, l0, e, R, s, m, args, below, meth, c, Q⟩ := E
  intro H locs ls h1 h2 h3 h4
  exact lv_ldc hE.1 hE.2.1 hE.2.2.2.1 (hE.2.2.2.2.1 _ hw) hd (kk H locs ls h1 h2 h3 h4)
theorem q_ldc2 (hE : CX E V l cc own nL kR rc rs ret) {index : Nat} {v : Int64} (hd : decode cc pc = .ok (.ldc2_w index, 3)) (hw : Cond.constantLong own index v ∈ TG) (kk : PW E V nc ns N G (pc + 3) lv (.long v :: st)) : PW E V nc ns N G pc lv st := by
  obtain ⟨p, l0, e, R, s, m, args, below, meth, c, Q⟩ := E
  intro H locs ls h1 h2 h3 h4
  exact lv_ldc2 hE.1 hE.2.1 hE.2.2.2.1 (hE.2.2.2.2.1 _ hw) hd (kk H locs ls h1 h2 h3 h4)
theorem q_null (hE : CX E V l cc own nL kR rc rs ret)  (hd : decode cc pc = .ok (.aconst_null, 1)) (kk : PW E V nc ns N G (pc + 1) lv (.null :: st)) : PW E V nc ns N G pc lv st := by
  obtain ⟨p, l0, e, R, s, m, args, below, meth, c, Q⟩ := E
  intro H locs ls h1 h2 h3 h4
  exact lv_null hE.1 hE.2.1 hd (kk H locs ls h1 h2 h3 h4)
theorem q_iload_n (hE : CX E V l cc own nL kR rc rs ret) (j : Nat) {i : Fin 4} {i0 : Nat} {x : Int32} (hd : decode cc pc = .ok (.iload_n i, 1)) (hi : (i : Nat) = i0) (hl : lv[j]? = some (i0, .int x)) (kk : PW E V nc ns N G (pc + 1) lv (.int x :: st)) : PW E V nc ns N G pc lv st := by
  obtain ⟨p, l0, e, R, s, m, args, below, meth, c, Q⟩ := E
  intro H locs ls h1 h2 h3 h4
  exact lv_iload_n hE.1 hE.2.1 hd hi (lv_at h4 j hl) (kk H locs ls h1 h2 h3 h4)
theorem q_iload (hE : CX E V l cc own nL kR rc rs ret) (j : Nat) {i : Nat} {x : Int32} (hd : decode cc pc = .ok (.iload i, 2)) (hl : lv[j]? = some (i, .int x)) (kk : PW E V nc ns N G (pc + 2) lv (.int x :: st)) : PW E V nc ns N G pc lv st := by
  obtain ⟨p, l0, e, R, s, m, args, below, meth, c, Q⟩ := E
  intro H locs ls h1 h2 h3 h4
  exact lv_iload hE.1 hE.2.1 hd (lv_at h4 j hl) (kk H locs ls h1 h2 h3 h4)
theorem q_lload_n (hE : CX E V l cc own nL kR rc rs ret) (j : Nat) {i : Fin 4} {i0 : Nat} {x : Int64} (hd : decode cc pc = .ok (.lload_n i, 1)) (hi : (i : Nat) = i0) (hl : lv[j]? = some (i0, .long x)) (kk : PW E V nc ns N G (pc + 1) lv (.long x :: st)) : PW E V nc ns N G pc lv st := by
  obtain ⟨p, l0, e, R, s, m, args, below, meth, c, Q⟩ := E
  intro H locs ls h1 h2 h3 h4
  exact lv_lload_n hE.1 hE.2.1 hd hi (lv_at h4 j hl) (kk H locs ls h1 h2 h3 h4)
theorem q_lload (hE : CX E V l cc own nL kR rc rs ret) (j : Nat) {i : Nat} {x : Int64} (hd : decode cc pc = .ok (.lload i, 2)) (hl : lv[j]? = some (i, .long x)) (kk : PW E V nc ns N G (pc + 2) lv (.long x :: st)) : PW E V nc ns N G pc lv st := by
  obtain ⟨p, l0, e, R, s, m, args, below, meth, c, Q⟩ := E
  intro H locs ls h1 h2 h3 h4
  exact lv_lload hE.1 hE.2.1 hd (lv_at h4 j hl) (kk H locs ls h1 h2 h3 h4)
theorem q_aload_n (hE : CX E V l cc own nL kR rc rs ret) (j : Nat) {i : Fin 4} {i0 : Nat} {x : Nat} (hd : decode cc pc = .ok (.aload_n i, 1)) (hi : (i : Nat) = i0) (hl : lv[j]? = some (i0, rf V x)) (kk : PW E V nc ns N G (pc + 1) lv (rf V x :: st)) : PW E V nc ns N G pc lv st := by
  obtain ⟨p, l0, e, R, s, m, args, below, meth, c, Q⟩ := E
  intro H locs ls h1 h2 h3 h4
  exact lv_aload_n hE.1 hE.2.1 hd hi (lv_at h4 j hl) (kk H locs ls h1 h2 h3 h4)
theorem q_aload (hE : CX E V l cc own nL kR rc rs ret) (j : Nat) {i : Nat} {x : Nat} (hd : decode cc pc = .ok (.aload i, 2)) (hl : lv[j]? = some (i, rf V x)) (kk : PW E V nc ns N G (pc + 2) lv (rf V x :: st)) : PW E V nc ns N G pc lv st := by
  obtain ⟨p, l0, e, R, s, m, args, below, meth, c, Q⟩ := E
  intro H locs ls h1 h2 h3 h4
  exact lv_aload hE.1 hE.2.1 hd (lv_at h4 j hl) (kk H locs ls h1 h2 h3 h4)
theorem q_aload_nS (hE : CX E V l cc own nL kR rc rs ret) (j : Nat) {i : Fin 4} {i0 : Nat} {x : Nat} (hd : decode cc pc = .ok (.aload_n i, 1)) (hi : (i : Nat) = i0) (hl : lv[j]? = some (i0, sf V x)) (kk : PW E V nc ns N G (pc + 1) lv (sf V x :: st)) : PW E V nc ns N G pc lv st := by
  obtain ⟨p, l0, e, R, s, m, args, below, meth, c, Q⟩ := E
  intro H locs ls h1 h2 h3 h4
  exact lv_aload_n hE.1 hE.2.1 hd hi (lv_at h4 j hl) (kk H locs ls h1 h2 h3 h4)
theorem q_aloadS (hE : CX E V l cc own nL kR rc rs ret) (j : Nat) {i : Nat} {x : Nat} (hd : decode cc pc = .ok (.aload i, 2)) (hl : lv[j]? = some (i, sf V x)) (kk : PW E V nc ns N G (pc + 2) lv (sf V x :: st)) : PW E V nc ns N G pc lv st := by
  obtain ⟨p, l0, e, R, s, m, args, below, meth, c, Q⟩ := E
  intro H locs ls h1 h2 h3 h4
  exact lv_aload hE.1 hE.2.1 hd (lv_at h4 j hl) (kk H locs ls h1 h2 h3 h4)
theorem q_istore_n (hE : CX E V l cc own nL kR rc rs ret) (lv' : List (Nat × Value)) {i : Fin 4} {i0 : Nat} {x : Int32} (hd : decode cc pc = .ok (.istore_n i, 1)) (hi : (i : Nat) = i0) (hn : Nat.ble (i0 + 1) nL = true) (hl : lst i0 (.int x) lv = lv') (kk : PW E V nc ns N G (pc + 1) lv' st) : PW E V nc ns N G pc lv (.int x :: st) := by
  obtain ⟨p, l0, e, R, s, m, args, below, meth, c, Q⟩ := E
  intro H locs ls h1 h2 h3 h4
  refine lv_istore_n hE.1 hE.2.1 hd hi h4 (by rw [hE.2.2.1]; exact Nat.le_of_ble_eq_true hn) rfl (fun ls' h5 => ?_)
  exact kk H locs ls' h1 h2 h3 (lv_less h5 (fun q hq => lst_in (show q ∈ lst i0 (.int x) lv from by rw [hl]; exact hq)))
theorem q_istore (hE : CX E V l cc own nL kR rc rs ret) (lv' : List (Nat × Value)) {i0 : Nat} {x : Int32} (hd : decode cc pc = .ok (.istore i0, 2)) (hn : Nat.ble (i0 + 1) nL = true) (hl : lst i0 (.int x) lv = lv') (kk : PW E V nc ns N G (pc + 2) lv' st) : PW E V nc ns N G pc lv (.int x :: st) := by
  obtain ⟨p, l0, e, R, s, m, args, below, meth, c, Q⟩ := E
  intro H locs ls h1 h2 h3 h4
  refine lv_istore hE.1 hE.2.1 hd h4 (by rw [hE.2.2.1]; exact Nat.le_of_ble_eq_true hn) rfl (fun ls' h5 => ?_)
  exact kk H locs ls' h1 h2 h3 (lv_less h5 (fun q hq => lst_in (show q ∈ lst i0 (.int x) lv from by rw [hl]; exact hq)))
theorem q_astore_n (hE : CX E V l cc own nL kR rc rs ret) (lv' : List (Nat × Value)) {i : Fin 4} {i0 : Nat} {x : Nat} (hd : decode cc pc = .ok (.astore_n i, 1)) (hi : (i : Nat) = i0) (hn : Nat.ble (i0 + 1) nL = true) (hl : lst i0 (rf V x) lv = lv') (kk : PW E V nc ns N G (pc + 1) lv' st) : PW E V nc ns N G pc lv (rf V x :: st) := by
  obtain ⟨p, l0, e, R, s, m, args, below, meth, c, Q⟩ := E
  intro H locs ls h1 h2 h3 h4
  refine lv_astore_n hE.1 hE.2.1 hd hi h4 (by rw [hE.2.2.1]; exact Nat.le_of_ble_eq_true hn) rfl (fun ls' h5 => ?_)
  exact kk H locs ls' h1 h2 h3 (lv_less h5 (fun q hq => lst_in (show q ∈ lst i0 (rf V x) lv from by rw [hl]; exact hq)))
theorem q_astore (hE : CX E V l cc own nL kR rc rs ret) (lv' : List (Nat × Value)) {i0 : Nat} {x : Nat} (hd : decode cc pc = .ok (.astore i0, 2)) (hn : Nat.ble (i0 + 1) nL = true) (hl : lst i0 (rf V x) lv = lv') (kk : PW E V nc ns N G (pc + 2) lv' st) : PW E V nc ns N G pc lv (rf V x :: st) := by
  obtain ⟨p, l0, e, R, s, m, args, below, meth, c, Q⟩ := E
  intro H locs ls h1 h2 h3 h4
  refine lv_astore hE.1 hE.2.1 hd h4 (by rw [hE.2.2.1]; exact Nat.le_of_ble_eq_true hn) rfl (fun ls' h5 => ?_)
  exact kk H locs ls' h1 h2 h3 (lv_less h5 (fun q hq => lst_in (show q ∈ lst i0 (rf V x) lv from by rw [hl]; exact hq)))
theorem q_lstore_n (hE : CX E V l cc own nL kR rc rs ret) (lv' : List (Nat × Value)) {i : Fin 4} {i0 : Nat} {x : Int64} (hd : decode cc pc = .ok (.lstore_n i, 1)) (hi : (i : Nat) = i0) (hn : Nat.ble (i0 + 2) nL = true) (hl : lst2 i0 (.long x) lv = lv') (kk : PW E V nc ns N G (pc + 1) lv' st) : PW E V nc ns N G pc lv (.long x :: st) := by
  obtain ⟨p, l0, e, R, s, m, args, below, meth, c, Q⟩ := E
  intro H locs ls h1 h2 h3 h4
  refine lv_lstore_n hE.1 hE.2.1 hd hi h4 (by rw [hE.2.2.1]; exact Nat.le_of_ble_eq_true hn) rfl (fun ls' h5 => ?_)
  exact kk H locs ls' h1 h2 h3 (lv_less h5 (fun q hq => lst2_in (by rw [hl]; exact hq)))
theorem q_lstore (hE : CX E V l cc own nL kR rc rs ret) (lv' : List (Nat × Value)) {i0 : Nat} {x : Int64} (hd : decode cc pc = .ok (.lstore i0, 2)) (hn : Nat.ble (i0 + 2) nL = true) (hl : lst2 i0 (.long x) lv = lv') (kk : PW E V nc ns N G (pc + 2) lv' st) : PW E V nc ns N G pc lv (.long x :: st) := by
  obtain ⟨p, l0, e, R, s, m, args, below, meth, c, Q⟩ := E
  intro H locs ls h1 h2 h3 h4
  refine lv_lstore hE.1 hE.2.1 hd h4 (by rw [hE.2.2.1]; exact Nat.le_of_ble_eq_true hn) rfl (fun ls' h5 => ?_)
  exact kk H locs ls' h1 h2 h3 (lv_less h5 (fun q hq => lst2_in (by rw [hl]; exact hq)))
theorem q_iinc (hE : CX E V l cc own nL kR rc rs ret) (lv' : List (Nat × Value)) (j : Nat) {i0 : Nat} {n : Int} {x v : Int32} (hd : decode cc pc = .ok (.iinc i0 n, 3)) (hk : lv[j]? = some (i0, .int x)) (hv : Int32.ofInt n = v) (hn : Nat.ble (i0 + 1) nL = true) (hl : lst i0 (.int (x + v)) lv = lv') (kk : PW E V nc ns N G (pc + 3) lv' st) : PW E V nc ns N G pc lv st := by
  obtain ⟨p, l0, e, R, s, m, args, below, meth, c, Q⟩ := E
  intro H locs ls h1 h2 h3 h4
  subst hv
  refine lv_iinc hE.1 hE.2.1 hd h4 hk rfl (by rw [hE.2.2.1]; exact Nat.le_of_ble_eq_true hn) rfl (fun ls' h5 => ?_)
  exact kk H locs ls' h1 h2 h3 (lv_less h5 (fun q hq => lst_in (by rw [hl]; exact hq)))
theorem q_dup (hE : CX E V l cc own nL kR rc rs ret) {v : Value} (hd : decode cc pc = .ok (.dup, 1)) (hv : v.category = 1) (kk : PW E V nc ns N G (pc + 1) lv (v :: v :: st)) : PW E V nc ns N G pc lv (v :: st) := by
  obtain ⟨p, l0, e, R, s, m, args, below, meth, c, Q⟩ := E
  intro H locs ls h1 h2 h3 h4
  exact lv_dup hE.1 hE.2.1 hd hv (kk H locs ls h1 h2 h3 h4)
theorem q_pop (hE : CX E V l cc own nL kR rc rs ret) {v : Value} (hd : decode cc pc = .ok (.pop, 1)) (hv : v.category = 1) (kk : PW E V nc ns N G (pc + 1) lv st) : PW E V nc ns N G pc lv (v :: st) := by
  obtain ⟨p, l0, e, R, s, m, args, below, meth, c, Q⟩ := E
  intro H locs ls h1 h2 h3 h4
  exact lv_pop hE.1 hE.2.1 hd hv (kk H locs ls h1 h2 h3 h4)
theorem q_dup_x1 (hE : CX E V l cc own nL kR rc rs ret) {v u : Value} (hd : decode cc pc = .ok (.dup_x1, 1)) (hv : v.category = 1) (hu : u.category = 1) (kk : PW E V nc ns N G (pc + 1) lv (v :: u :: v :: st)) : PW E V nc ns N G pc lv (v :: u :: st) := by
  obtain ⟨p, l0, e, R, s, m, args, below, meth, c, Q⟩ := E
  intro H locs ls h1 h2 h3 h4
  exact lv_dup_x1 hE.1 hE.2.1 hd hv hu (kk H locs ls h1 h2 h3 h4)
theorem q_dup2 (hE : CX E V l cc own nL kR rc rs ret) {v u : Value} (hd : decode cc pc = .ok (.dup2, 1)) (hv : v.category = 1) (hu : u.category = 1) (kk : PW E V nc ns N G (pc + 1) lv (v :: u :: v :: u :: st)) : PW E V nc ns N G pc lv (v :: u :: st) := by
  obtain ⟨p, l0, e, R, s, m, args, below, meth, c, Q⟩ := E
  intro H locs ls h1 h2 h3 h4
  exact lv_dup2_11 hE.1 hE.2.1 hd hv hu (kk H locs ls h1 h2 h3 h4)
theorem q_if_eq (hE : CX E V l cc own nL kR rc rs ret) {x : Int32} {off : Int} {tgt : Nat} {B : Type} {A1 A2 : Option B} {r : B} (hd : decode cc pc = .ok (.ifCond .eq off, 3)) (ht : (pc : Int) + off = (tgt : Int)) (hm : (if x = 0 then A1 else A2) = some r) (kt : x = 0 → A1 = some r → PW E V nc ns N G tgt lv st) (kf : ¬ x = 0 → A2 = some r → PW E V nc ns N G (pc + 3) lv st) : PW E V nc ns N G pc lv (.int x :: st) := by
  obtain ⟨p, l0, e, R, s, m, args, below, meth, c, Q⟩ := E
  intro H locs ls h1 h2 h3 h4
  exact lv_if_eq hE.1 hE.2.1 hd ht (fun hc => by rw [if_pos hc] at hm; exact kt hc hm H locs ls h1 h2 h3 h4) (fun hc => by rw [if_neg hc] at hm; exact kf hc hm H locs ls h1 h2 h3 h4)
theorem q_icmp_eq (hE : CX E V l cc own nL kR rc rs ret) {x y : Int32} {off : Int} {tgt : Nat} {B : Type} {A1 A2 : Option B} {r : B} (hd : decode cc pc = .ok (.if_icmp .eq off, 3)) (ht : (pc : Int) + off = (tgt : Int)) (hm : (if x = y then A1 else A2) = some r) (kt : x = y → A1 = some r → PW E V nc ns N G tgt lv st) (kf : ¬ x = y → A2 = some r → PW E V nc ns N G (pc + 3) lv st) : PW E V nc ns N G pc lv (.int y :: .int x :: st) := by
  obtain ⟨p, l0, e, R, s, m, args, below, meth, c, Q⟩ := E
  intro H locs ls h1 h2 h3 h4
  exact lv_icmp_eq hE.1 hE.2.1 hd ht (fun hc => by rw [if_pos hc] at hm; exact kt hc hm H locs ls h1 h2 h3 h4) (fun hc => by rw [if_neg hc] at hm; exact kf hc hm H locs ls h1 h2 h3 h4)
theorem q_if_lt (hE : CX E V l cc own nL kR rc rs ret) {x : Int32} {off : Int} {tgt : Nat} {B : Type} {A1 A2 : Option B} {r : B} (hd : decode cc pc = .ok (.ifCond .lt off, 3)) (ht : (pc : Int) + off = (tgt : Int)) (hm : (if x < 0 then A1 else A2) = some r) (kt : x < 0 → A1 = some r → PW E V nc ns N G tgt lv st) (kf : ¬ x < 0 → A2 = some r → PW E V nc ns N G (pc + 3) lv st) : PW E V nc ns N G pc lv (.int x :: st) := by
  obtain ⟨p, l0, e, R, s, m, args, below, meth, c, Q⟩ := E
  intro H locs ls h1 h2 h3 h4
  exact lv_if_lt hE.1 hE.2.1 hd ht (fun hc => by rw [if_pos hc] at hm; exact kt hc hm H locs ls h1 h2 h3 h4) (fun hc => by rw [if_neg hc] at hm; exact kf hc hm H locs ls h1 h2 h3 h4)
theorem q_icmp_lt (hE : CX E V l cc own nL kR rc rs ret) {x y : Int32} {off : Int} {tgt : Nat} {B : Type} {A1 A2 : Option B} {r : B} (hd : decode cc pc = .ok (.if_icmp .lt off, 3)) (ht : (pc : Int) + off = (tgt : Int)) (hm : (if x < y then A1 else A2) = some r) (kt : x < y → A1 = some r → PW E V nc ns N G tgt lv st) (kf : ¬ x < y → A2 = some r → PW E V nc ns N G (pc + 3) lv st) : PW E V nc ns N G pc lv (.int y :: .int x :: st) := by
  obtain ⟨p, l0, e, R, s, m, args, below, meth, c, Q⟩ := E
  intro H locs ls h1 h2 h3 h4
  exact lv_icmp_lt hE.1 hE.2.1 hd ht (fun hc => by rw [if_pos hc] at hm; exact kt hc hm H locs ls h1 h2 h3 h4) (fun hc => by rw [if_neg hc] at hm; exact kf hc hm H locs ls h1 h2 h3 h4)
theorem q_if_ge (hE : CX E V l cc own nL kR rc rs ret) {x : Int32} {off : Int} {tgt : Nat} {B : Type} {A1 A2 : Option B} {r : B} (hd : decode cc pc = .ok (.ifCond .ge off, 3)) (ht : (pc : Int) + off = (tgt : Int)) (hm : (if 0 ≤ x then A1 else A2) = some r) (kt : 0 ≤ x → A1 = some r → PW E V nc ns N G tgt lv st) (kf : ¬ 0 ≤ x → A2 = some r → PW E V nc ns N G (pc + 3) lv st) : PW E V nc ns N G pc lv (.int x :: st) := by
  obtain ⟨p, l0, e, R, s, m, args, below, meth, c, Q⟩ := E
  intro H locs ls h1 h2 h3 h4
  exact lv_if_ge hE.1 hE.2.1 hd ht (fun hc => by rw [if_pos hc] at hm; exact kt hc hm H locs ls h1 h2 h3 h4) (fun hc => by rw [if_neg hc] at hm; exact kf hc hm H locs ls h1 h2 h3 h4)
theorem q_icmp_ge (hE : CX E V l cc own nL kR rc rs ret) {x y : Int32} {off : Int} {tgt : Nat} {B : Type} {A1 A2 : Option B} {r : B} (hd : decode cc pc = .ok (.if_icmp .ge off, 3)) (ht : (pc : Int) + off = (tgt : Int)) (hm : (if y ≤ x then A1 else A2) = some r) (kt : y ≤ x → A1 = some r → PW E V nc ns N G tgt lv st) (kf : ¬ y ≤ x → A2 = some r → PW E V nc ns N G (pc + 3) lv st) : PW E V nc ns N G pc lv (.int y :: .int x :: st) := by
  obtain ⟨p, l0, e, R, s, m, args, below, meth, c, Q⟩ := E
  intro H locs ls h1 h2 h3 h4
  exact lv_icmp_ge hE.1 hE.2.1 hd ht (fun hc => by rw [if_pos hc] at hm; exact kt hc hm H locs ls h1 h2 h3 h4) (fun hc => by rw [if_neg hc] at hm; exact kf hc hm H locs ls h1 h2 h3 h4)
theorem q_if_gt (hE : CX E V l cc own nL kR rc rs ret) {x : Int32} {off : Int} {tgt : Nat} {B : Type} {A1 A2 : Option B} {r : B} (hd : decode cc pc = .ok (.ifCond .gt off, 3)) (ht : (pc : Int) + off = (tgt : Int)) (hm : (if 0 < x then A1 else A2) = some r) (kt : 0 < x → A1 = some r → PW E V nc ns N G tgt lv st) (kf : ¬ 0 < x → A2 = some r → PW E V nc ns N G (pc + 3) lv st) : PW E V nc ns N G pc lv (.int x :: st) := by
  obtain ⟨p, l0, e, R, s, m, args, below, meth, c, Q⟩ := E
  intro H locs ls h1 h2 h3 h4
  exact lv_if_gt hE.1 hE.2.1 hd ht (fun hc => by rw [if_pos hc] at hm; exact kt hc hm H locs ls h1 h2 h3 h4) (fun hc => by rw [if_neg hc] at hm; exact kf hc hm H locs ls h1 h2 h3 h4)
theorem q_icmp_gt (hE : CX E V l cc own nL kR rc rs ret) {x y : Int32} {off : Int} {tgt : Nat} {B : Type} {A1 A2 : Option B} {r : B} (hd : decode cc pc = .ok (.if_icmp .gt off, 3)) (ht : (pc : Int) + off = (tgt : Int)) (hm : (if y < x then A1 else A2) = some r) (kt : y < x → A1 = some r → PW E V nc ns N G tgt lv st) (kf : ¬ y < x → A2 = some r → PW E V nc ns N G (pc + 3) lv st) : PW E V nc ns N G pc lv (.int y :: .int x :: st) := by
  obtain ⟨p, l0, e, R, s, m, args, below, meth, c, Q⟩ := E
  intro H locs ls h1 h2 h3 h4
  exact lv_icmp_gt hE.1 hE.2.1 hd ht (fun hc => by rw [if_pos hc] at hm; exact kt hc hm H locs ls h1 h2 h3 h4) (fun hc => by rw [if_neg hc] at hm; exact kf hc hm H locs ls h1 h2 h3 h4)
theorem q_if_le (hE : CX E V l cc own nL kR rc rs ret) {x : Int32} {off : Int} {tgt : Nat} {B : Type} {A1 A2 : Option B} {r : B} (hd : decode cc pc = .ok (.ifCond .le off, 3)) (ht : (pc : Int) + off = (tgt : Int)) (hm : (if x ≤ 0 then A1 else A2) = some r) (kt : x ≤ 0 → A1 = some r → PW E V nc ns N G tgt lv st) (kf : ¬ x ≤ 0 → A2 = some r → PW E V nc ns N G (pc + 3) lv st) : PW E V nc ns N G pc lv (.int x :: st) := by
  obtain ⟨p, l0, e, R, s, m, args, below, meth, c, Q⟩ := E
  intro H locs ls h1 h2 h3 h4
  exact lv_if_le hE.1 hE.2.1 hd ht (fun hc => by rw [if_pos hc] at hm; exact kt hc hm H locs ls h1 h2 h3 h4) (fun hc => by rw [if_neg hc] at hm; exact kf hc hm H locs ls h1 h2 h3 h4)
theorem q_icmp_le (hE : CX E V l cc own nL kR rc rs ret) {x y : Int32} {off : Int} {tgt : Nat} {B : Type} {A1 A2 : Option B} {r : B} (hd : decode cc pc = .ok (.if_icmp .le off, 3)) (ht : (pc : Int) + off = (tgt : Int)) (hm : (if x ≤ y then A1 else A2) = some r) (kt : x ≤ y → A1 = some r → PW E V nc ns N G tgt lv st) (kf : ¬ x ≤ y → A2 = some r → PW E V nc ns N G (pc + 3) lv st) : PW E V nc ns N G pc lv (.int y :: .int x :: st) := by
  obtain ⟨p, l0, e, R, s, m, args, below, meth, c, Q⟩ := E
  intro H locs ls h1 h2 h3 h4
  exact lv_icmp_le hE.1 hE.2.1 hd ht (fun hc => by rw [if_pos hc] at hm; exact kt hc hm H locs ls h1 h2 h3 h4) (fun hc => by rw [if_neg hc] at hm; exact kf hc hm H locs ls h1 h2 h3 h4)
theorem q_if_ne (hE : CX E V l cc own nL kR rc rs ret) {x : Int32} {off : Int} {tgt : Nat} {B : Type} {A1 A2 : Option B} {r : B} (hd : decode cc pc = .ok (.ifCond .ne off, 3)) (ht : (pc : Int) + off = (tgt : Int)) (hm : (if x = 0 then A1 else A2) = some r) (kf : x = 0 → A1 = some r → PW E V nc ns N G (pc + 3) lv st) (kt : ¬ x = 0 → A2 = some r → PW E V nc ns N G tgt lv st) : PW E V nc ns N G pc lv (.int x :: st) := by
  obtain ⟨p, l0, e, R, s, m, args, below, meth, c, Q⟩ := E
  intro H locs ls h1 h2 h3 h4
  exact lv_if_ne hE.1 hE.2.1 hd ht (fun hc => by rw [if_neg hc] at hm; exact kt hc hm H locs ls h1 h2 h3 h4) (fun hc => by rw [if_pos hc] at hm; exact kf hc hm H locs ls h1 h2 h3 h4)
theorem q_icmp_ne (hE : CX E V l cc own nL kR rc rs ret) {x y : Int32} {off : Int} {tgt : Nat} {B : Type} {A1 A2 : Option B} {r : B} (hd : decode cc pc = .ok (.if_icmp .ne off, 3)) (ht : (pc : Int) + off = (tgt : Int)) (hm : (if x = y then A1 else A2) = some r) (kf : x = y → A1 = some r → PW E V nc ns N G (pc + 3) lv st) (kt : ¬ x = y → A2 = some r → PW E V nc ns N G tgt lv st) : PW E V nc ns N G pc lv (.int y :: .int x :: st) := by
  obtain ⟨p, l0, e, R, s, m, args, below, meth, c, Q⟩ := E
  intro H locs ls h1 h2 h3 h4
  exact lv_icmp_ne hE.1 hE.2.1 hd ht (fun hc => by rw [if_neg hc] at hm; exact kt hc hm H locs ls h1 h2 h3 h4) (fun hc => by rw [if_pos hc] at hm; exact kf hc hm H locs ls h1 h2 h3 h4)
theorem q_goto (hE : CX E V l cc own nL kR rc rs ret) {off : Int} {tgt : Nat} (hd : decode cc pc = .ok (.goto off, 3)) (ht : (pc : Int) + off = (tgt : Int)) (kk : PW E V nc ns N G tgt lv st) : PW E V nc ns N G pc lv st := by
  obtain ⟨p, l0, e, R, s, m, args, below, meth, c, Q⟩ := E
  intro H locs ls h1 h2 h3 h4
  exact lv_goto hE.1 hE.2.1 hd ht (kk H locs ls h1 h2 h3 h4)
theorem q_ifnonnull (hE : CX E V l cc own nL kR rc rs ret) {o : Option Nat} {off : Int} {tgt : Nat} {B : Type} {A1 : Option B} {A2 : Nat → Option B} {r : B} (hd : decode cc pc = .ok (.ifnonnull off, 3)) (ht : (pc : Int) + off = (tgt : Int)) (hm : (match o with | none => A1 | some z => A2 z) = some r) (kn : o = none → A1 = some r → PW E V nc ns N G (pc + 3) lv st) (kf : ∀ z, o = some z → A2 z = some r → PW E V nc ns N G tgt lv st) : PW E V nc ns N G pc lv (rq V o :: st) := by
  obtain ⟨p, l0, e, R, s, m, args, below, meth, c, Q⟩ := E
  intro H locs ls h1 h2 h3 h4
  cases o with
  | none => 
    have k := kn rfl hm H locs ls h1 h2 h3 h4
    intro T hT X
    obtain ⟨t, a, b⟩ := k T hT X
    refine ⟨t, ?_, b⟩
    jvm_step X.here [X.here.top, hE.1, hE.2.1, hd, rq]
    exact a
  | some z => exact lv_ifnonnull hE.1 hE.2.1 hd ht (kf z rfl hm H locs ls h1 h2 h3 h4)
def KCl (ci : Nat) (C : String) (T : u_T) (n : Nat) (ty0 : Nat → FieldType) : Prop := vwCl[ci]? = some (C, T, n) ∧ (∀ wd ∈ u_ws C T n, wd ∈ TG) ∧ (∀ k, k < n → parseFieldDescriptor (T k).2.2.1 = some (ty0 k)) ∧ (∀ a, a < n → ∀ b, b < n → a ≠ b → (T a).2.1 ≠ (T b).2.1)
theorem wl_at {b N : Nat} {G : Nat → va_E} {k : Nat} {e : va_E} (h : Nat.ble (k + 1) N = true) (hG : G k = e) : (wl b N G)[k]? = some (b + k, e) := by rw [← hG]; exact wl_get (Nat.le_of_ble_eq_true h)
theorem wl_back {V : Ev} {N k : Nat} {G G' : Nat → va_E} {e : va_E} {H1 : Heap} (h : Nat.ble (k + 1) N = true) (hG' : va_up G k e = G') (hP : va_P V.1 vwCl ((wl V.2.2.1 N G).set k (V.2.2.1 + k, e)) H1) : va_P V.1 vwCl (wl V.2.2.1 N G') H1 := by
  rw [wl_set e (Nat.le_of_ble_eq_true h), hG'] at hP; exact hP
theorem SZ.off {V : Ev} {N : Nat} {H : Heap} (h : V.2.2.2.2 = false) : SZ V N H := fun q => by rw [h] at q; cases q
theorem SZ.set {V : Ev} {N : Nat} {H H1 : Heap} (h : SZ V N H) (hz : H1.size = H.size) : SZ V N H1 := fun q => hz.trans (h q)
theorem q_get (hE : CX E V l cc own nL kR rc rs ret) {idx ci i k n : Nat} {C : String} {T : u_T} {ty0 : Nat → FieldType} {fs : List Value} {v : Value} (hd : decode cc pc = .ok (.getfield idx, 3)) (hC : KCl ci C T n ty0) (hw : Cond.fieldLink own idx (T i).1 (T i).2.1 (T i).2.2.1 ∈ TG) (hG : G k = .inr (ci, fs)) (hv : fs[i]? = some v) (hkN : Nat.ble (k + 1) N = true) (hin2 : Nat.ble (i + 1) n = true) (kk : PW E V nc ns N G (pc + 3) lv (v :: st)) : PW E V nc ns N G pc lv (rf V k :: st) := by
  obtain ⟨p, l0, e, R, s, m, args, below, meth, c, Q⟩ := E
  intro H locs ls h1 h2 h3 h4
  exact va_get hE.1 hE.2.1 hE.2.2.2.2.1 hC.2.1 hE.2.2.2.1 hE.2.2.2.2.2.1.1 h1 k (wl_at hkN hG) hC.1 i (Nat.le_of_ble_eq_true hin2) (hE.2.2.2.2.1 _ hw) (fun _ h => h) hv hd (kk H locs ls h1 h2 h3 h4)
theorem q_getN (hE : CX E V l cc own nL kR rc rs ret) {idx ci i k n : Nat} {C : String} {T : u_T} {ty0 : Nat → FieldType} {fs : List Value} {v : Value} {host : String} (hd : decode cc pc = .ok (.getfield idx, 3)) (hC : KCl ci C T n ty0) (hw : Cond.fieldLinkNest own idx (T i).1 (T i).2.1 (T i).2.2.1 host ∈ TN) (hG : G k = .inr (ci, fs)) (hv : fs[i]? = some v) (hkN : Nat.ble (k + 1) N = true) (hin2 : Nat.ble (i + 1) n = true) (kk : PW E V nc ns N G (pc + 3) lv (v :: st)) : PW E V nc ns N G pc lv (rf V k :: st) := by
  obtain ⟨p, l0, e, R, s, m, args, below, meth, c, Q⟩ := E
  intro H locs ls h1 h2 h3 h4
  exact va_getN hE.1 hE.2.1 hE.2.2.2.2.1 hC.2.1 hE.2.2.2.1 hE.2.2.2.2.2.1.1 h1 k (wl_at hkN hG) hC.1 i (Nat.le_of_ble_eq_true hin2) (va_Nw.use rfl (hE.2.2.2.2.2.1.2.1 _ hw)) (fun _ h => h) hv hd (kk H locs ls h1 h2 h3 h4)
theorem q_put (hE : CX E V l cc own nL kR rc rs ret) (hfx : V.2.2.2.2 = false) {idx ci i k n : Nat} {C : String} {T : u_T} {ty0 : Nat → FieldType} {fs : List Value} {v : Value} {G' : Nat → va_E} (hd : decode cc pc = .ok (.putfield idx, 3)) (hC : KCl ci C T n ty0) (hw : Cond.fieldLink own idx (T i).1 (T i).2.1 (T i).2.2.1 ∈ TG) (hG : G k = .inr (ci, fs)) (hfin : (T i).2.2.2 = false) (hn : narrow (ty0 i) v = v) (hfit : fits (ty0 i) v = true) (hl : Nat.ble (i + 1) fs.length = true) (hkN : Nat.ble (k + 1) N = true) (hin2 : Nat.ble (i + 1) n = true) (hG' : va_up G k (.inr (ci, fs.set i v)) = G') (kk : PW E V nc ns N G' (pc + 3) lv st) : PW E V nc ns N G pc lv (v :: rf V k :: st) := by
  obtain ⟨p, l0, e, R, s, m, args, below, meth, c, Q⟩ := E
  intro H locs ls h1 h2 h3 h4
  exact va_put hE.1 hE.2.1 hE.2.2.2.2.1 hC.2.1 ty0 hC.2.2.1 hC.2.2.2 hE.2.2.2.1 hE.2.2.2.2.2.1.1 h1 (wl_D _ _ _) h3 k (wl_at hkN hG) hC.1 i (Nat.le_of_ble_eq_true hin2) (hE.2.2.2.2.1 _ hw) (fun _ h => h) hfin (hC.2.2.1 i (Nat.le_of_ble_eq_true hin2)) hn hfit (Nat.le_of_ble_eq_true hl) hd (fun H1 locs1 hP1 hD1 hS1 => kk H1 locs1 ls (wl_back hkN hG' hP1) (SZ.off hfx) hS1 h4)
theorem q_putN (hE : CX E V l cc own nL kR rc rs ret) (hfx : V.2.2.2.2 = false) {idx ci i k n : Nat} {C : String} {T : u_T} {ty0 : Nat → FieldType} {fs : List Value} {v : Value} {G' : Nat → va_E} {host : String} (hd : decode cc pc = .ok (.putfield idx, 3)) (hC : KCl ci C T n ty0) (hw : Cond.fieldLinkNest own idx (T i).1 (T i).2.1 (T i).2.2.1 host ∈ TN) (hG : G k = .inr (ci, fs)) (hfin : (T i).2.2.2 = false) (hn : narrow (ty0 i) v = v) (hfit : fits (ty0 i) v = true) (hl : Nat.ble (i + 1) fs.length = true) (hkN : Nat.ble (k + 1) N = true) (hin2 : Nat.ble (i + 1) n = true) (hG' : va_up G k (.inr (ci, fs.set i v)) = G') (kk : PW E V nc ns N G' (pc + 3) lv st) : PW E V nc ns N G pc lv (v :: rf V k :: st) := by
  obtain ⟨p, l0, e, R, s, m, args, below, meth, c, Q⟩ := E
  intro H locs ls h1 h2 h3 h4
  exact va_putN hE.1 hE.2.1 hE.2.2.2.2.1 hC.2.1 ty0 hC.2.2.1 hC.2.2.2 hE.2.2.2.1 hE.2.2.2.2.2.1.1 h1 (wl_D _ _ _) h3 k (wl_at hkN hG) hC.1 i (Nat.le_of_ble_eq_true hin2) (va_Nw.use rfl (hE.2.2.2.2.2.1.2.1 _ hw)) (fun _ h => h) hfin (hC.2.2.1 i (Nat.le_of_ble_eq_true hin2)) hn hfit (Nat.le_of_ble_eq_true hl) hd (fun H1 locs1 hP1 hD1 hS1 => kk H1 locs1 ls (wl_back hkN hG' hP1) (SZ.off hfx) hS1 h4)
theorem q_iald (hE : CX E V l cc own nL kR rc rs ret) {k n : Nat} {i : Int32} {B : Type} {A1 : Option B} {r : B} {f : Nat → Int32} (hd : decode cc pc = .ok (.iaload, 1)) (hG : G k = .inl (V.2.1 1, n, .inl f)) (hkN : Nat.ble (k + 1) N = true) (hm : (if inb i n = true then A1 else none) = some r) (kk : A1 = some r → PW E V nc ns N G (pc + 1) lv (.int (f (ix i)) :: st)) : PW E V nc ns N G pc lv (.int i :: rf V k :: st) := by
  obtain ⟨p, l0, e, R, s, m, args, below, meth, c, Q⟩ := E
  intro H locs ls h1 h2 h3 h4
  by_cases hi : inb i n = true
  · rw [if_pos hi] at hm
    exact va_iald hE.1 hE.2.1 hE.2.2.2.2.2.1.1 h1 k 1 (wl_at hkN hG) rfl (inb_in hi) hd (kk hm H locs ls h1 h2 h3 h4)
  · rw [if_neg hi] at hm; cases hm
theorem q_bald (hE : CX E V l cc own nL kR rc rs ret) {k n : Nat} {i : Int32} {B : Type} {A1 : Option B} {r : B} {f : Nat → Int32} (hd : decode cc pc = .ok (.baload, 1)) (hG : G k = .inl (V.2.1 0, n, .inl f)) (hkN : Nat.ble (k + 1) N = true) (hm : (if inb i n = true then A1 else none) = some r) (kk : A1 = some r → PW E V nc ns N G (pc + 1) lv (.int (f (ix i)) :: st)) : PW E V nc ns N G pc lv (.int i :: rf V k :: st) := by
  obtain ⟨p, l0, e, R, s, m, args, below, meth, c, Q⟩ := E
  intro H locs ls h1 h2 h3 h4
  by_cases hi : inb i n = true
  · rw [if_pos hi] at hm
    exact va_bald hE.1 hE.2.1 hE.2.2.2.2.2.1.1 h1 k 0 (wl_at hkN hG) rfl (inb_in hi) hd (kk hm H locs ls h1 h2 h3 h4)
  · rw [if_neg hi] at hm; cases hm
theorem q_zald (hE : CX E V l cc own nL kR rc rs ret) {k n : Nat} {i : Int32} {B : Type} {A1 : Option B} {r : B} {f : Nat → Int32} (hd : decode cc pc = .ok (.baload, 1)) (hG : G k = .inl (V.2.1 3, n, .inl f)) (hkN : Nat.ble (k + 1) N = true) (hm : (if inb i n = true then A1 else none) = some r) (kk : A1 = some r → PW E V nc ns N G (pc + 1) lv (.int (f (ix i)) :: st)) : PW E V nc ns N G pc lv (.int i :: rf V k :: st) := by
  obtain ⟨p, l0, e, R, s, m, args, below, meth, c, Q⟩ := E
  intro H locs ls h1 h2 h3 h4
  by_cases hi : inb i n = true
  · rw [if_pos hi] at hm
    exact va_zald hE.1 hE.2.1 hE.2.2.2.2.2.1.1 h1 k 3 (wl_at hkN hG) rfl (inb_in hi) hd (kk hm H locs ls h1 h2 h3 h4)
  · rw [if_neg hi] at hm; cases hm
theorem q_lald (hE : CX E V l cc own nL kR rc rs ret) {k n : Nat} {i : Int32} {B : Type} {A1 : Option B} {r : B} {f : Nat → Int64} (hd : decode cc pc = .ok (.laload, 1)) (hG : G k = .inl (V.2.1 2, n, .inr (.inl f))) (hkN : Nat.ble (k + 1) N = true) (hm : (if inb i n = true then A1 else none) = some r) (kk : A1 = some r → PW E V nc ns N G (pc + 1) lv (.long (f (ix i)) :: st)) : PW E V nc ns N G pc lv (.int i :: rf V k :: st) := by
  obtain ⟨p, l0, e, R, s, m, args, below, meth, c, Q⟩ := E
  intro H locs ls h1 h2 h3 h4
  by_cases hi : inb i n = true
  · rw [if_pos hi] at hm
    exact va_lald hE.1 hE.2.1 hE.2.2.2.2.2.1.1 h1 k 2 (wl_at hkN hG) rfl (inb_in hi) hd (kk hm H locs ls h1 h2 h3 h4)
  · rw [if_neg hi] at hm; cases hm
theorem q_aald (hE : CX E V l cc own nL kR rc rs ret) {k n : Nat} {i : Int32} {B : Type} {A1 : Option B} {r : B} {f : Nat → Option Nat} {C : String} (t : Nat) {z : Nat} (hd : decode cc pc = .ok (.aaload, 1)) (hG : G k = .inl (V.2.1 t, n, .inr (.inr (.inr (.inr f))))) (ht : (tysOf V.2.1)[t]? = some (V.2.1 t, .object C)) (hz : inb i n = true → f (ix i) = some (V.2.2.1 + z)) (hkN : Nat.ble (k + 1) N = true) (hm : (if inb i n = true then A1 else none) = some r) (kk : inb i n = true → A1 = some r → PW E V nc ns N G (pc + 1) lv (rf V z :: st)) : PW E V nc ns N G pc lv (.int i :: rf V k :: st) := by
  obtain ⟨p, l0, e, R, s, m, args, below, meth, c, Q⟩ := E
  intro H locs ls h1 h2 h3 h4
  by_cases hi : inb i n = true
  · rw [if_pos hi] at hm
    refine va_aldq hE.1 hE.2.1 hE.2.2.2.2.2.1.1 h1 k t (wl_at hkN hG) ht (inb_in hi) hd ?_
    rw [show f i.toNatClampNeg = _ from hz hi]
    exact kk hi hm H locs ls h1 h2 h3 h4
  · rw [if_neg hi] at hm; cases hm
theorem q_iast (hE : CX E V l cc own nL kR rc rs ret) (hfx : V.2.2.2.2 = false) {k n : Nat} {i : Int32} {B : Type} {A1 : Option B} {r : B} {f : Nat → Int32} {x : Int32} {G' : Nat → va_E} (hd : decode cc pc = .ok (.iastore, 1)) (hG : G k = .inl (V.2.1 1, n, .inl f)) (hkN : Nat.ble (k + 1) N = true) (hG' : va_up G k (.inl (V.2.1 1, n, .inl (upd f (ix i) x))) = G') (hm : (if inb i n = true then A1 else none) = some r) (kk : A1 = some r → PW E V nc ns N G' (pc + 1) lv st) : PW E V nc ns N G pc lv (.int x :: .int i :: rf V k :: st) := by
  obtain ⟨p, l0, e, R, s, m, args, below, meth, c, Q⟩ := E
  intro H locs ls h1 h2 h3 h4
  by_cases hi : inb i n = true
  · rw [if_pos hi] at hm
    exact va_iast hE.1 hE.2.1 hE.2.2.2.2.2.1.1 h1 (wl_D _ _ _) h3 k 1 (wl_at hkN hG) rfl (inb_in hi) hd (fun H1 locs1 hP1 hD1 hS1 => kk hm H1 locs1 ls (wl_back hkN hG' hP1) (SZ.off hfx) hS1 h4)
  · rw [if_neg hi] at hm; cases hm
theorem q_bast (hE : CX E V l cc own nL kR rc rs ret) (hfx : V.2.2.2.2 = false) {k n : Nat} {i : Int32} {B : Type} {A1 : Option B} {r : B} {f : Nat → Int32} {x : Int32} {G' : Nat → va_E} (hd : decode cc pc = .ok (.bastore, 1)) (hG : G k = .inl (V.2.1 0, n, .inl f)) (hkN : Nat.ble (k + 1) N = true) (hG' : va_up G k (.inl (V.2.1 0, n, .inl (upd f (ix i) (vp_nar .byte x)))) = G') (hm : (if inb i n = true then A1 else none) = some r) (kk : A1 = some r → PW E V nc ns N G' (pc + 1) lv st) : PW E V nc ns N G pc lv (.int x :: .int i :: rf V k :: st) := by
  obtain ⟨p, l0, e, R, s, m, args, below, meth, c, Q⟩ := E
  intro H locs ls h1 h2 h3 h4
  by_cases hi : inb i n = true
  · rw [if_pos hi] at hm
    exact va_bast hE.1 hE.2.1 hE.2.2.2.2.2.1.1 h1 (wl_D _ _ _) h3 k 0 (wl_at hkN hG) rfl (inb_in hi) hd (fun H1 locs1 hP1 hD1 hS1 => kk hm H1 locs1 ls (wl_back hkN hG' hP1) (SZ.off hfx) hS1 h4)
  · rw [if_neg hi] at hm; cases hm
theorem q_zast (hE : CX E V l cc own nL kR rc rs ret) (hfx : V.2.2.2.2 = false) {k n : Nat} {i : Int32} {B : Type} {A1 : Option B} {r : B} {f : Nat → Int32} {x : Int32} {G' : Nat → va_E} (hd : decode cc pc = .ok (.bastore, 1)) (hG : G k = .inl (V.2.1 3, n, .inl f)) (hkN : Nat.ble (k + 1) N = true) (hG' : va_up G k (.inl (V.2.1 3, n, .inl (upd f (ix i) (vp_nar .boolean x)))) = G') (hm : (if inb i n = true then A1 else none) = some r) (kk : A1 = some r → PW E V nc ns N G' (pc + 1) lv st) : PW E V nc ns N G pc lv (.int x :: .int i :: rf V k :: st) := by
  obtain ⟨p, l0, e, R, s, m, args, below, meth, c, Q⟩ := E
  intro H locs ls h1 h2 h3 h4
  by_cases hi : inb i n = true
  · rw [if_pos hi] at hm
    exact va_zast hE.1 hE.2.1 hE.2.2.2.2.2.1.1 h1 (wl_D _ _ _) h3 k 3 (wl_at hkN hG) rfl (inb_in hi) hd (fun H1 locs1 hP1 hD1 hS1 => kk hm H1 locs1 ls (wl_back hkN hG' hP1) (SZ.off hfx) hS1 h4)
  · rw [if_neg hi] at hm; cases hm
theorem q_last (hE : CX E V l cc own nL kR rc rs ret) (hfx : V.2.2.2.2 = false) {k n : Nat} {i : Int32} {B : Type} {A1 : Option B} {r : B} {f : Nat → Int64} {x : Int64} {G' : Nat → va_E} (hd : decode cc pc = .ok (.lastore, 1)) (hG : G k = .inl (V.2.1 2, n, .inr (.inl f))) (hkN : Nat.ble (k + 1) N = true) (hG' : va_up G k (.inl (V.2.1 2, n, .inr (.inl (vp_updL f (ix i) x)))) = G') (hm : (if inb i n = true then A1 else none) = some r) (kk : A1 = some r → PW E V nc ns N G' (pc + 1) lv st) : PW E V nc ns N G pc lv (.long x :: .int i :: rf V k :: st) := by
  obtain ⟨p, l0, e, R, s, m, args, below, meth, c, Q⟩ := E
  intro H locs ls h1 h2 h3 h4
  by_cases hi : inb i n = true
  · rw [if_pos hi] at hm
    exact va_last hE.1 hE.2.1 hE.2.2.2.2.2.1.1 h1 (wl_D _ _ _) h3 k 2 (wl_at hkN hG) rfl (inb_in hi) hd (fun H1 locs1 hP1 hD1 hS1 => kk hm H1 locs1 ls (wl_back hkN hG' hP1) (SZ.off hfx) hS1 h4)
  · rw [if_neg hi] at hm; cases hm
theorem q_alen (hE : CX E V l cc own nL kR rc rs ret) {k : Nat} {cA : ClassId} {a : vp_A} {ty : FieldType} (t : Nat) {v : Int32} (hd : decode cc pc = .ok (.arraylength, 1)) (hG : G k = .inl (cA, a)) (ht : (tysOf V.2.1)[t]? = some (cA, ty)) (hv : Int32.ofNat a.1 = v) (hkN : Nat.ble (k + 1) N = true) (kk : PW E V nc ns N G (pc + 1) lv (.int v :: st)) : PW E V nc ns N G pc lv (rf V k :: st) := by
  obtain ⟨p, l0, e, R, s, m, args, below, meth, c, Q⟩ := E
  intro H locs ls h1 h2 h3 h4
  exact va_alen hE.1 hE.2.1 hE.2.2.2.2.2.1.1 h1 k t (wl_at hkN hG) ht hv hd (kk H locs ls h1 h2 h3 h4)
theorem q_ld_above (hE : CX E V l cc own nL kR rc rs ret) {i : Int32} {B : Type} {A1 : Option B} {r : B} (hd : decode cc pc = .ok (.iaload, 1)) (hm : (if inb i 7 = true then A1 else none) = some r) (kk : A1 = some r → PW E V nc ns N G (pc + 1) lv (.int (aboveF (ix i)) :: st)) : PW E V nc ns N G pc lv (.int i :: sf V 0 :: st) := by
  obtain ⟨p, l0, e, R, s, m, args, below, meth, c, Q⟩ := E
  intro H locs ls h1 h2 h3 h4
  by_cases hi : inb i 7 = true
  · rw [if_pos hi] at hm
    exact va_ti hE.1 hE.2.1 hE.2.2.2.2.2.1.2.2.1.2.1 h3 (inb_in hi) rfl hd (kk hm H locs ls h1 h2 h3 h4)
  · rw [if_neg hi] at hm; cases hm
theorem q_gs_above (hE : CX E V l cc own nL kR rc rs ret) {idx : Nat} (hd : decode cc pc = .ok (.getstatic idx, 3)) (hw : Cond.fieldLink own idx RX9 "ABOVE" "[I" ∈ TG) (kk : PW E V nc ns N G (pc + 3) lv (sf V 0 :: st)) : PW E V nc ns N G pc lv st := by
  obtain ⟨p, l0, e, R, s, m, args, below, meth, c, Q⟩ := E
  intro H locs ls h1 h2 h3 h4
  exact va_gets hE.1 hE.2.1 hE.2.2.2.2.2.1.2.2.1.1 h3 hE.2.2.2.1 (hE.2.2.2.2.1 _ hw) (fun _ h => h) hd (kk H locs ls h1 h2 h3 h4)
theorem q_gsN_above (hE : CX E V l cc own nL kR rc rs ret) {idx : Nat} {host : String} (hd : decode cc pc = .ok (.getstatic idx, 3)) (hw : Cond.fieldLinkNest own idx RX9 "ABOVE" "[I" host ∈ TN) (kk : PW E V nc ns N G (pc + 3) lv (sf V 0 :: st)) : PW E V nc ns N G pc lv st := by
  obtain ⟨p, l0, e, R, s, m, args, below, meth, c, Q⟩ := E
  intro H locs ls h1 h2 h3 h4
  exact va_getsN hE.1 hE.2.1 hE.2.2.2.2.2.1.2.2.1.1 h3 hE.2.2.2.1 (va_Nw.use rfl (hE.2.2.2.2.2.1.2.1 _ hw)) (fun _ h => h) hd (kk H locs ls h1 h2 h3 h4)
theorem q_ld_bodies (hE : CX E V l cc own nL kR rc rs ret) {i : Int32} {B : Type} {A1 : Option B} {r : B} (hd : decode cc pc = .ok (.iaload, 1)) (hm : (if inb i 21 = true then A1 else none) = some r) (kk : A1 = some r → PW E V nc ns N G (pc + 1) lv (.int (bodiesF (ix i)) :: st)) : PW E V nc ns N G pc lv (.int i :: sf V 1 :: st) := by
  obtain ⟨p, l0, e, R, s, m, args, below, meth, c, Q⟩ := E
  intro H locs ls h1 h2 h3 h4
  by_cases hi : inb i 21 = true
  · rw [if_pos hi] at hm
    exact va_ti hE.1 hE.2.1 hE.2.2.2.2.2.1.2.2.1.2.2.2 h3 (inb_in hi) rfl hd (kk hm H locs ls h1 h2 h3 h4)
  · rw [if_neg hi] at hm; cases hm
theorem q_gs_bodies (hE : CX E V l cc own nL kR rc rs ret) {idx : Nat} (hd : decode cc pc = .ok (.getstatic idx, 3)) (hw : Cond.fieldLink own idx RX0 "BODIES" "[I" ∈ TG) (kk : PW E V nc ns N G (pc + 3) lv (sf V 1 :: st)) : PW E V nc ns N G pc lv st := by
  obtain ⟨p, l0, e, R, s, m, args, below, meth, c, Q⟩ := E
  intro H locs ls h1 h2 h3 h4
  exact va_gets hE.1 hE.2.1 hE.2.2.2.2.2.1.2.2.1.2.2.1 h3 hE.2.2.2.1 (hE.2.2.2.2.1 _ hw) (fun _ h => h) hd (kk H locs ls h1 h2 h3 h4)
theorem q_gsN_bodies (hE : CX E V l cc own nL kR rc rs ret) {idx : Nat} {host : String} (hd : decode cc pc = .ok (.getstatic idx, 3)) (hw : Cond.fieldLinkNest own idx RX0 "BODIES" "[I" host ∈ TN) (kk : PW E V nc ns N G (pc + 3) lv (sf V 1 :: st)) : PW E V nc ns N G pc lv st := by
  obtain ⟨p, l0, e, R, s, m, args, below, meth, c, Q⟩ := E
  intro H locs ls h1 h2 h3 h4
  exact va_getsN hE.1 hE.2.1 hE.2.2.2.2.2.1.2.2.1.2.2.1 h3 hE.2.2.2.1 (va_Nw.use rfl (hE.2.2.2.2.2.1.2.1 _ hw)) (fun _ h => h) hd (kk H locs ls h1 h2 h3 h4)
theorem q_ldcS (hE : CX E V l cc own nL kR rc rs ret) {idx : Nat} (j : Nat) {tx : String} (hd : decode cc pc = .ok (.ldc idx, 2)) (hR : ∀ (U : State) (Hp : Heap), XS V U Hp → vk_R own idx tx (V.2.2.2.1 j) U) (kk : PW E V nc ns N G (pc + 2) lv (sf V j :: st)) : PW E V nc ns N G pc lv st := by
  obtain ⟨p, l0, e, R, s, m, args, below, meth, c, Q⟩ := E
  intro H locs ls h1 h2 h3 h4
  exact va_ldcS hE.1 hE.2.1 hE.2.2.2.1 (hR _ _ hE.2.2.2.2.2.1.2.2) hd (kk H locs ls h1 h2 h3 h4)
theorem q_copyi (hE : CX E V l cc own nL kR rc rs ret) (hfx : V.2.2.2.2 = false) {idx k0 k1 n0 n1 : Nat} {sp dp n : Int32} {B : Type} {A1 : Option B} {r : B} {f g : Nat → Int32} {G' : Nat → va_E} (hd : decode cc pc = .ok (.invokestatic idx, 3)) (hw : Cond.methodLink own idx arraycopyName ∈ TG) (hw2 : Cond.native arraycopyName ∈ TG ∧ Cond.static arraycopyName ∈ TG ∧ Cond.initialized "java/lang/System" ∈ TG) (hG0 : G k0 = .inl (V.2.1 1, n0, .inl f)) (hG1 : G k1 = .inl (V.2.1 1, n1, .inl g)) (hk0 : Nat.ble (k0 + 1) N = true) (hk1 : Nat.ble (k1 + 1) N = true) (hkR : Nat.ble 2 kR = true) (hst : Nat.ble (st.map fun v => v.category).sum 8 = true) (hG' : va_up G k1 (.inl (V.2.1 1, n1, .inl (va_cpy f g (ix sp) (ix dp) (ix n)))) = G')
    (hm : (if decide (0 ≤ sp.toInt) && (decide (0 ≤ dp.toInt) && (decide (0 ≤ n.toInt) && (decide (sp.toInt + n.toInt ≤ n0) && decide (dp.toInt + n.toInt ≤ n1)))) then A1 else none) = some r) (kk : A1 = some r → PW E V nc ns N G' (pc + 3) lv st) : PW E V nc ns N G pc lv (.int n :: .int dp :: rf V k1 :: .int sp :: rf V k0 :: st) := by
  obtain ⟨p, l0, e, R, s, m, args, below, meth, c, Q⟩ := E
  intro H locs ls h1 h2 h3 h4
  have nn : ∀ z : Int32, 0 ≤ z.toInt → (¬ z < 0) ∧ z.toInt = (z.toNatClampNeg : Int) := by
    intro z hz
    refine ⟨fun h => ?_, ?_⟩
    · have := Int32.lt_iff_toInt_lt.mp h
      simp at this; omega
    · show z.toInt = ((z.toInt.toNat : Nat) : Int)
      omega
  by_cases hc : (decide (0 ≤ sp.toInt) && (decide (0 ≤ dp.toInt) && (decide (0 ≤ n.toInt) && (decide (sp.toInt + n.toInt ≤ n0) && decide (dp.toInt + n.toInt ≤ n1))))) = true
  · rw [if_pos hc] at hm
    simp only [Bool.and_eq_true, decide_eq_true_eq] at hc
    obtain ⟨c1, c2, c3, c4, c5⟩ := hc
    have m1 := nn sp c1
    have m2 := nn dp c2
    have m3 := nn n c3
    have hb2 := Nat.le_of_ble_eq_true hkR
    have hsum := Nat.le_of_ble_eq_true hst
    have hF : kR ≤ R.frames := hE.2.2.2.2.2.2.1
    have hL : 64 * kR ≤ R.locals := hE.2.2.2.2.2.2.2.1
    have h9 : nativeFrameWords "java/lang/System" "arraycopy" 5 + 11 ≤ 100 := by decide
    refine va_copyi hE.1 hE.2.1 h4.1.symm hE.2.2.2.1 (hE.2.2.2.2.1 _ hw) (hE.2.2.2.2.1 _ hw2.1) (hE.2.2.2.2.1 _ hw2.2.1) (hE.2.2.2.2.1 _ hw2.2.2) hE.2.2.2.2.2.1.1 h1 (wl_D _ _ _) h3 k0 k1 1 1 (wl_at hk0 hG0) (wl_at hk1 hG1) rfl rfl rfl m1.1 m2.1 m3.1 (by omega) (by omega) (fun i hi => rfl) (by omega) (by omega) hd (fun H1 locs1 hP1 hD1 hS1 => kk hm H1 locs1 ls (wl_back hk1 hG' hP1) (SZ.off hfx) hS1 h4)
  · rw [if_neg hc] at hm; cases hm
theorem q_copyl (hE : CX E V l cc own nL kR rc rs ret) (hfx : V.2.2.2.2 = false) {idx k0 k1 n0 n1 : Nat} {sp dp n : Int32} {B : Type} {A1 : Option B} {r : B} {f g : Nat → Int64} {G' : Nat → va_E} (hd : decode cc pc = .ok (.invokestatic idx, 3)) (hw : Cond.methodLink own idx arraycopyName ∈ TG) (hw2 : Cond.native arraycopyName ∈ TG ∧ Cond.static arraycopyName ∈ TG ∧ Cond.initialized "java/lang/System" ∈ TG) (hG0 : G k0 = .inl (V.2.1 2, n0, .inr (.inl f))) (hG1 : G k1 = .inl (V.2.1 2, n1, .inr (.inl g))) (hk0 : Nat.ble (k0 + 1) N = true) (hk1 : Nat.ble (k1 + 1) N = true) (hkR : Nat.ble 2 kR = true) (hst : Nat.ble (st.map fun v => v.category).sum 8 = true) (hG' : va_up G k1 (.inl (V.2.1 2, n1, .inr (.inl (va_cpy f g (ix sp) (ix dp) (ix n))))) = G')
    (hm : (if decide (0 ≤ sp.toInt) && (decide (0 ≤ dp.toInt) && (decide (0 ≤ n.toInt) && (decide (sp.toInt + n.toInt ≤ n0) && decide (dp.toInt + n.toInt ≤ n1)))) then A1 else none) = some r) (kk : A1 = some r → PW E V nc ns N G' (pc + 3) lv st) : PW E V nc ns N G pc lv (.int n :: .int dp :: rf V k1 :: .int sp :: rf V k0 :: st) := by
  obtain ⟨p, l0, e, R, s, m, args, below, meth, c, Q⟩ := E
  intro H locs ls h1 h2 h3 h4
  have nn : ∀ z : Int32, 0 ≤ z.toInt → (¬ z < 0) ∧ z.toInt = (z.toNatClampNeg : Int) := by
    intro z hz
    refine ⟨fun h => ?_, ?_⟩
    · have := Int32.lt_iff_toInt_lt.mp h
      simp at this; omega
    · show z.toInt = ((z.toInt.toNat : Nat) : Int)
      omega
  by_cases hc : (decide (0 ≤ sp.toInt) && (decide (0 ≤ dp.toInt) && (decide (0 ≤ n.toInt) && (decide (sp.toInt + n.toInt ≤ n0) && decide (dp.toInt + n.toInt ≤ n1))))) = true
  · rw [if_pos hc] at hm
    simp only [Bool.and_eq_true, decide_eq_true_eq] at hc
    obtain ⟨c1, c2, c3, c4, c5⟩ := hc
    have m1 := nn sp c1
    have m2 := nn dp c2
    have m3 := nn n c3
    have hb2 := Nat.le_of_ble_eq_true hkR
    have hsum := Nat.le_of_ble_eq_true hst
    have hF : kR ≤ R.frames := hE.2.2.2.2.2.2.1
    have hL : 64 * kR ≤ R.locals := hE.2.2.2.2.2.2.2.1
    have h9 : nativeFrameWords "java/lang/System" "arraycopy" 5 + 11 ≤ 100 := by decide
    refine va_copyl hE.1 hE.2.1 h4.1.symm hE.2.2.2.1 (hE.2.2.2.2.1 _ hw) (hE.2.2.2.2.1 _ hw2.1) (hE.2.2.2.2.1 _ hw2.2.1) (hE.2.2.2.2.1 _ hw2.2.2) hE.2.2.2.2.2.1.1 h1 (wl_D _ _ _) h3 k0 k1 2 2 (wl_at hk0 hG0) (wl_at hk1 hG1) rfl rfl rfl m1.1 m2.1 m3.1 (by omega) (by omega) (fun i hi => rfl) (by omega) (by omega) hd (fun H1 locs1 hP1 hD1 hS1 => kk hm H1 locs1 ls (wl_back hk1 hG' hP1) (SZ.off hfx) hS1 h4)
  · rw [if_neg hc] at hm; cases hm
theorem q_mmax (hE : CX E V l cc own nL kR rc rs ret) {idx : Nat} {x y : Int32} (hd : decode cc pc = .ok (.invokestatic idx, 3)) (hw : Cond.methodLink own idx Lib.Math.max.name ∈ TG) (hw2 : Cond.static Lib.Math.max.name ∈ TG ∧ Cond.initialized "java/lang/Math" ∈ TG ∧ Cond.code Lib.Math.max.name Lib.Math.max.code 2 (some .int) ∈ TG) (hkR : Nat.ble 1 kR = true) (hst : Nat.ble (st.map fun v => v.category).sum 8 = true) (hnc : nc ≤ rc) (hns : ns ≤ rs) (kk : PW E V nc ns N G (pc + 3) lv (.int (if x < y then y else x) :: st)) : PW E V nc ns N G pc lv (.int y :: .int x :: st) := by
  obtain ⟨p, l0, e, R, s, m, args, below, meth, c, Q⟩ := E
  intro H locs ls h1 h2 h3 h4
  have hb2 := Nat.le_of_ble_eq_true hkR
  have hsum := Nat.le_of_ble_eq_true hst
  have hF : kR ≤ R.frames := hE.2.2.2.2.2.2.1
  have hL : 64 * kR ≤ R.locals := hE.2.2.2.2.2.2.2.1
  have hC1 : rc ≤ R.cells := hE.2.2.2.2.2.2.2.2.2.1
  have hS1 : rs ≤ R.slots := hE.2.2.2.2.2.2.2.2.2.2.1
  exact va_mmax hE.1 hE.2.1 h4.1.symm hE.2.2.2.1 (hE.2.2.2.2.1 _ hw) (hE.2.2.2.2.1 _ hw2.1) (hE.2.2.2.2.1 _ hw2.2.1) (hE.2.2.2.2.1 _ hw2.2.2) (by omega) (by omega) (Nat.le_trans hnc hC1) (Nat.le_trans hns hS1) hd (kk H locs ls h1 h2 h3 h4)
theorem q_mmin (hE : CX E V l cc own nL kR rc rs ret) {idx : Nat} {x y : Int32} (hd : decode cc pc = .ok (.invokestatic idx, 3)) (hw : Cond.methodLink own idx Lib.Math.min.name ∈ TG) (hw2 : Cond.static Lib.Math.min.name ∈ TG ∧ Cond.initialized "java/lang/Math" ∈ TG ∧ Cond.code Lib.Math.min.name Lib.Math.min.code 2 (some .int) ∈ TG) (hkR : Nat.ble 1 kR = true) (hst : Nat.ble (st.map fun v => v.category).sum 8 = true) (hnc : nc ≤ rc) (hns : ns ≤ rs) (kk : PW E V nc ns N G (pc + 3) lv (.int (if y < x then y else x) :: st)) : PW E V nc ns N G pc lv (.int y :: .int x :: st) := by
  obtain ⟨p, l0, e, R, s, m, args, below, meth, c, Q⟩ := E
  intro H locs ls h1 h2 h3 h4
  have hb2 := Nat.le_of_ble_eq_true hkR
  have hsum := Nat.le_of_ble_eq_true hst
  have hF : kR ≤ R.frames := hE.2.2.2.2.2.2.1
  have hL : 64 * kR ≤ R.locals := hE.2.2.2.2.2.2.2.1
  have hC1 : rc ≤ R.cells := hE.2.2.2.2.2.2.2.2.2.1
  have hS1 : rs ≤ R.slots := hE.2.2.2.2.2.2.2.2.2.2.1
  exact va_mmin hE.1 hE.2.1 h4.1.symm hE.2.2.2.1 (hE.2.2.2.2.1 _ hw) (hE.2.2.2.2.1 _ hw2.1) (hE.2.2.2.2.1 _ hw2.2.1) (hE.2.2.2.2.1 _ hw2.2.2) (by omega) (by omega) (Nat.le_trans hnc hC1) (Nat.le_trans hns hS1) hd (kk H locs ls h1 h2 h3 h4)
theorem ST.same {V : Ev} {u U : State} {H : Heap} (hv : u.vm = U.vm) (h : ST V u H) : ST V U H := ST.warm (by rw [← hv]; exact State.WarmedH.refl u) h
theorem SW.blind {V : Ev} {N : Nat} {G : Nat → va_E} {av : List Value} : FrameBlind (va_Pc av (SW V N G)) := by
  intro a U g mk h
  exact ⟨h.1, h.2.1, h.2.2.1, h.2.2.2.1, ST.same (u := U) rfl h.2.2.2.2⟩
theorem SW.here {V : Ev} {N : Nat} {G : Nat → va_E} {av : List Value} {s U : State} {H : Heap} {locs : List Loc} (h1 : va_P V.1 vwCl (wl V.2.2.1 N G) H) (h2 : SZ V N H) (h3 : va_S (fun q => V.2.2.1 ≤ q) s.heap H locs) (hb : V.2.2.1 ≤ s.heap.size) (hT : ST V s s.heap) (hU : U.heap = H) (hW : s.WarmedH U.vm) : va_Pc av (SW V N G) av.toArray U := by
  refine ⟨rfl, ?_, ?_, ?_, ?_⟩
  · rw [hU]; exact h1
  · rw [hU]; exact h2
  · rw [hU]; exact Nat.le_trans hb h3.1
  · rw [hU]; exact ST.kept (ST.warm hW hT) (fun a ha hn => h3.2.1 a ha hn)
theorem run_end {p : Program} {l : Launch} {e : Env} {R : Room} {s : State} {m : MethodId} {args : Array Value} {below : List Frame} {meth : Method} {c : Code} {H : Heap} {locs : List Loc} {nc ns mc ms : Nat} {Q : State → Prop} {V : Ev} {N' : Nat} {G' : Nat → va_E} {ov : Option Value} {pc : Nat} {ls : Array Slot} {lv : List (Nat × Value)} {stk st : List Value} {a : Array Value}
    (hr : va_Run p l e R s m args below meth c H locs nc ns mc ms (F0 m pc ls stk) st (QcM V N' G' ov a) (fun q => V.2.2.1 ≤ q)) (hb : V.2.2.1 ≤ s.heap.size) (h3 : va_S (fun q => V.2.2.1 ≤ q) s.heap H locs) (h4 : lv_has ls c.maxLocals lv)
    (kk : PW (p, l, e, R, s, m, args, below, meth, c, Q) V (nc + mc) (ns + ms) N' G' (pc + 3) lv (ov.toList ++ st)) : W p l e R s m args below meth c H locs nc ns Q (F0 m pc ls stk) := by
  intro T hT X
  obtain ⟨v, st₀, t, T', L, h0, X', hL, e1, e2, ⟨hv, hSW, hz, hk⟩, sg⟩ := hr T hT X
  have hv := Outcome.returned.inj hv
  subst hv
  rw [h0] at hz hk
  obtain ⟨t2, a1, b1⟩ := kk T'.heap (locs ++ L) ls (by rw [e1]; exact hSW.1) (by rw [e1]; exact hSW.2.1) ⟨Nat.le_trans h3.1 (by rw [e1]; exact hz), fun q g1 g2 => by rw [e1, hk q (Nat.lt_of_lt_of_le g1 h3.1) g2]; exact h3.2.1 q g1 g2, fun q hq => by
      rcases List.mem_append.mp hq with h | h
      · exact h3.2.2 q h
      · exact hL q h⟩ h4 T' rfl X'
  exact ⟨t2, sg t2 a1, b1⟩
/-- what a callee's tables say: an instance method, a static one, a constructor -/
def MW0 (y : MethodName) (cc : ByteArray) (nL : Nat) (ret : Option FieldType) (n : Nat) : Prop := Cond.code y cc nL ret ∈ TG ∧ Cond.initialized y.cls ∈ TG ∧ (y.cls ≠ "java/lang/invoke/MethodHandle" ∧ y.cls ≠ "java/lang/invoke/VarHandle") ∧ (parseMethodDescriptor y.desc).map (fun d => d.parameters.length) = some n
def MWV (y : MethodName) (cc : ByteArray) (nL : Nat) (ret : Option FieldType) (n : Nat) : Prop := MW0 y cc nL ret n ∧ Cond.instanceMethod y ∈ TG ∧ Cond.selects y.cls y y ∈ TG
def MWS (y : MethodName) (cc : ByteArray) (nL : Nat) (ret : Option FieldType) (n : Nat) : Prop := MW0 y cc nL ret n ∧ Cond.static y ∈ TG
def MWI (y : MethodName) (cc : ByteArray) (nL : Nat) (ret : Option FieldType) (n : Nat) : Prop := MW0 y cc nL ret n ∧ y.name = "<init>" ∧ Cond.instanceMethod y ∈ TG
theorem mw_sig {y : MethodName} {n : Nat} (h : (parseMethodDescriptor y.desc).map (fun d => d.parameters.length) = some n) : ∀ sig, parseMethodDescriptor y.desc = some sig → n = sig.parameters.length := by
  intro sig hs
  rw [hs] at h
  exact (Option.some.inj h).symm
theorem mw_pay {args : Array Value} {s : State} {y : MethodName} {cc : ByteArray} {nL : Nat} {ret : Option FieldType} (ht : ∀ wd ∈ TG, wd.before args s = true) (hc : Cond.code y cc nL ret ∈ TG) : ∀ wd ∈ (Cond.code y cc nL ret :: TG), ∀ (a' : Array Value) (U : State), s.WarmedH U.vm → wd.before a' U = true :=
  pay_in ht (fun wd hw => by
    rcases List.mem_cons.mp hw with rfl | hw
    · exact goodTG _ hc
    · exact goodTG _ hw)
theorem q_callV (hE : CX E V l cc own nL kR rc rs ret) {idx nL' k' mc ms n : Nat} {y : MethodName} {cc' : ByteArray} {ret' : Option FieldType} {N' : Nat} {G' : Nat → va_E} {ov : Option Value} {As stk : List Value} {a : Nat} (hd : decode cc pc = .ok (.invokevirtual idx, 3)) (hc : Ctr l V y cc' nL' ret' k' (rf V a :: As) N G N' G' ov mc ms) (hM : MWV y cc' nL' ret' n) (hw : Cond.methodLink own idx y ∈ TG) (hk : Nat.ble (k' + 1) kR = true) (hL : Nat.ble nL' 44 = true) (hn : As.length = n) (hst : Nat.ble (st.map fun v => v.category).sum 8 = true) (hmc : nc + mc ≤ rc) (hms : ns + ms ≤ rs) (hstk : stk = As.reverse ++ rf V a :: st) {ci nn : Nat} {T : u_T} {ty0 : Nat → FieldType} {fs : List Value} (hC : KCl ci y.cls T nn ty0) (hG : G a = .inr (ci, fs)) (haN : Nat.ble (a + 1) N = true) (kk : PW E V (nc + mc) (ns + ms) N' G' (pc + 3) lv (ov.toList ++ st)) : PW E V nc ns N G pc lv stk := by
  obtain ⟨p, l0, e, R, s, m, args, below, meth, c, Q⟩ := E
  intro H locs ls h1 h2 h3 h4
  have hk9 := Nat.le_of_ble_eq_true hk
  have hL9 := Nat.le_of_ble_eq_true hL
  have hst9 := Nat.le_of_ble_eq_true hst
  have hF : kR ≤ R.frames := hE.2.2.2.2.2.2.1
  have hLo : 64 * kR ≤ R.locals := hE.2.2.2.2.2.2.2.1
  have hb : V.2.2.1 ≤ s.heap.size := hE.2.2.2.2.2.2.2.2.1
  have hC1 : rc ≤ R.cells := hE.2.2.2.2.2.2.2.2.2.1
  have hS1 : rs ≤ R.slots := hE.2.2.2.2.2.2.2.2.2.2.1
  have hll : l0 = l := hE.2.2.2.2.2.2.2.2.2.2.2.2.2
  subst hll
  subst hstk
  exact run_end (va_runV (C := y.cls) (As := As) (rest := st) ⟨hE.1, hE.2.1, hE.2.2.1, hE.2.2.2.1, hE.2.2.2.2.1⟩ hc ⟨⟨rfl, rfl, by show k' + 1 ≤ _; omega, by show 8 + (nL' + 11) + 64 * k' ≤ _; omega, mw_pay hE.2.2.2.2.1 hM.1.1, List.mem_cons_self, hE.2.2.2.2.1 _ hM.1.1, hE.2.2.2.2.1 _ hM.1.2.1, hM.1.2.2.1, mw_sig hM.1.2.2.2, hE.2.2.2.2.1 _ hw⟩, hE.2.2.2.2.1 _ hM.2.1, hE.2.2.2.2.1 _ hM.2.2⟩ ⟨SW.blind, va_recv hE.2.2.2.2.2.1.1 h1 hC.1 (wl_at haN hG), fun U hU hW => SW.here h1 h2 h3 hb hE.2.2.2.2.2.1 hU hW⟩ rfl hn (h4.1.trans hE.2.2.1) rfl (lv_room hst9) hd ⟨by omega, by omega⟩) hb h3 h4 kk
theorem q_callV_i (hE : CX E V l cc own nL kR rc rs ret) {idx nL' k' n : Nat} {y : MethodName} {cc' : ByteArray} {ret' : Option FieldType} {As stk : List Value} {Ph B : Type} {X : Ph → Nat → va_E} {f : Option (Int32 × Ph)} {K : Int32 → Ph → Option B} {r : B} {a : Nat} (hd : decode cc pc = .ok (.invokevirtual idx, 3)) (hM : MWV y cc' nL' ret' n) (hw : Cond.methodLink own idx y ∈ TG) (hk : Nat.ble (k' + 1) kR = true) (hL : Nat.ble nL' 44 = true) (hn : As.length = n) (hst : Nat.ble (st.map fun v => v.category).sum 8 = true) (hnc : nc ≤ rc) (hns : ns ≤ rs) (hstk : stk = As.reverse ++ rf V a :: st) {ci nn : Nat} {T : u_T} {ty0 : Nat → FieldType} {fs : List Value} (hC : KCl ci y.cls T nn ty0) (hG : G a = .inr (ci, fs)) (haN : Nat.ble (a + 1) N = true) (hc : ∀ (v : Int32) (h' : Ph), f = some (v, h') → Ctr l V y cc' nL' ret' k' (rf V a :: As) N G N (X h') (some (.int v)) 0 0) (hm : bnd f K = some r) (kk : ∀ (v : Int32) (h' : Ph), K v h' = some r → PW E V nc ns N (X h') (pc + 3) lv (.int v :: st)) : PW E V nc ns N G pc lv stk := by
  cases hf : f with
  | none => rw [hf] at hm; cases hm
  | some x =>
    rw [hf] at hm
    exact q_callV hE hd (hc x.1 x.2 hf) hM hw hk hL hn hst hnc hns hstk hC hG haN (kk x.1 x.2 hm)
theorem q_callV_l (hE : CX E V l cc own nL kR rc rs ret) {idx nL' k' n : Nat} {y : MethodName} {cc' : ByteArray} {ret' : Option FieldType} {As stk : List Value} {Ph B : Type} {X : Ph → Nat → va_E} {f : Option (Int64 × Ph)} {K : Int64 → Ph → Option B} {r : B} {a : Nat} (hd : decode cc pc = .ok (.invokevirtual idx, 3)) (hM : MWV y cc' nL' ret' n) (hw : Cond.methodLink own idx y ∈ TG) (hk : Nat.ble (k' + 1) kR = true) (hL : Nat.ble nL' 44 = true) (hn : As.length = n) (hst : Nat.ble (st.map fun v => v.category).sum 8 = true) (hnc : nc ≤ rc) (hns : ns ≤ rs) (hstk : stk = As.reverse ++ rf V a :: st) {ci nn : Nat} {T : u_T} {ty0 : Nat → FieldType} {fs : List Value} (hC : KCl ci y.cls T nn ty0) (hG : G a = .inr (ci, fs)) (haN : Nat.ble (a + 1) N = true) (hc : ∀ (v : Int64) (h' : Ph), f = some (v, h') → Ctr l V y cc' nL' ret' k' (rf V a :: As) N G N (X h') (some (.long v)) 0 0) (hm : bnd f K = some r) (kk : ∀ (v : Int64) (h' : Ph), K v h' = some r → PW E V nc ns N (X h') (pc + 3) lv (.long v :: st)) : PW E V nc ns N G pc lv stk := by
  cases hf : f with
  | none => rw [hf] at hm; cases hm
  | some x =>
    rw [hf] at hm
    exact q_callV hE hd (hc x.1 x.2 hf) hM hw hk hL hn hst hnc hns hstk hC hG haN (kk x.1 x.2 hm)
theorem q_callV_v (hE : CX E V l cc own nL kR rc rs ret) {idx nL' k' n : Nat} {y : MethodName} {cc' : ByteArray} {ret' : Option FieldType} {As stk : List Value} {Ph B : Type} {X : Ph → Nat → va_E} {f : Option (Unit × Ph)} {K : Unit → Ph → Option B} {r : B} {a : Nat} (hd : decode cc pc = .ok (.invokevirtual idx, 3)) (hM : MWV y cc' nL' ret' n) (hw : Cond.methodLink own idx y ∈ TG) (hk : Nat.ble (k' + 1) kR = true) (hL : Nat.ble nL' 44 = true) (hn : As.length = n) (hst : Nat.ble (st.map fun v => v.category).sum 8 = true) (hnc : nc ≤ rc) (hns : ns ≤ rs) (hstk : stk = As.reverse ++ rf V a :: st) {ci nn : Nat} {T : u_T} {ty0 : Nat → FieldType} {fs : List Value} (hC : KCl ci y.cls T nn ty0) (hG : G a = .inr (ci, fs)) (haN : Nat.ble (a + 1) N = true) (hc : ∀ (v : Unit) (h' : Ph), f = some (v, h') → Ctr l V y cc' nL' ret' k' (rf V a :: As) N G N (X h') (none) 0 0) (hm : bnd f K = some r) (kk : ∀ (v : Unit) (h' : Ph), K v h' = some r → PW E V nc ns N (X h') (pc + 3) lv (st)) : PW E V nc ns N G pc lv stk := by
  cases hf : f with
  | none => rw [hf] at hm; cases hm
  | some x =>
    rw [hf] at hm
    exact q_callV hE hd (hc x.1 x.2 hf) hM hw hk hL hn hst hnc hns hstk hC hG haN (kk x.1 x.2 hm)
theorem q_callVN (hE : CX E V l cc own nL kR rc rs ret) {idx nL' k' mc ms n : Nat} {y : MethodName} {cc' : ByteArray} {ret' : Option FieldType} {N' : Nat} {G' : Nat → va_E} {ov : Option Value} {As stk : List Value} {a : Nat} {host : String} (hd : decode cc pc = .ok (.invokevirtual idx, 3)) (hc : Ctr l V y cc' nL' ret' k' (rf V a :: As) N G N' G' ov mc ms) (hM : MWV y cc' nL' ret' n) (hw : Cond.methodLinkNest own idx y host ∈ TN) (hk : Nat.ble (k' + 1) kR = true) (hL : Nat.ble nL' 44 = true) (hn : As.length = n) (hst : Nat.ble (st.map fun v => v.category).sum 8 = true) (hmc : nc + mc ≤ rc) (hms : ns + ms ≤ rs) (hstk : stk = As.reverse ++ rf V a :: st) {ci nn : Nat} {T : u_T} {ty0 : Nat → FieldType} {fs : List Value} (hC : KCl ci y.cls T nn ty0) (hG : G a = .inr (ci, fs)) (haN : Nat.ble (a + 1) N = true) (kk : PW E V (nc + mc) (ns + ms) N' G' (pc + 3) lv (ov.toList ++ st)) : PW E V nc ns N G pc lv stk := by
  obtain ⟨p, l0, e, R, s, m, args, below, meth, c, Q⟩ := E
  intro H locs ls h1 h2 h3 h4
  have hk9 := Nat.le_of_ble_eq_true hk
  have hL9 := Nat.le_of_ble_eq_true hL
  have hst9 := Nat.le_of_ble_eq_true hst
  have hF : kR ≤ R.frames := hE.2.2.2.2.2.2.1
  have hLo : 64 * kR ≤ R.locals := hE.2.2.2.2.2.2.2.1
  have hb : V.2.2.1 ≤ s.heap.size := hE.2.2.2.2.2.2.2.2.1
  have hC1 : rc ≤ R.cells := hE.2.2.2.2.2.2.2.2.2.1
  have hS1 : rs ≤ R.slots := hE.2.2.2.2.2.2.2.2.2.2.1
  have hll : l0 = l := hE.2.2.2.2.2.2.2.2.2.2.2.2.2
  subst hll
  subst hstk
  exact run_end (va_runVN (C := y.cls) (As := As) (rest := st) ⟨hE.1, hE.2.1, hE.2.2.1, hE.2.2.2.1, hE.2.2.2.2.1⟩ hc ⟨⟨⟨rfl, rfl, by show k' + 1 ≤ _; omega, by show 8 + (nL' + 11) + 64 * k' ≤ _; omega, mw_pay hE.2.2.2.2.1 hM.1.1, List.mem_cons_self⟩, hE.2.2.2.2.1 _ hM.1.1, hE.2.2.2.2.1 _ hM.1.2.1, hM.1.2.2.1, mw_sig hM.1.2.2.2, va_Nw.use rfl (hE.2.2.2.2.2.1.2.1 _ hw)⟩, hE.2.2.2.2.1 _ hM.2.1, hE.2.2.2.2.1 _ hM.2.2⟩ ⟨SW.blind, va_recv hE.2.2.2.2.2.1.1 h1 hC.1 (wl_at haN hG), fun U hU hW => SW.here h1 h2 h3 hb hE.2.2.2.2.2.1 hU hW⟩ rfl hn (h4.1.trans hE.2.2.1) rfl (lv_room hst9) hd ⟨by omega, by omega⟩) hb h3 h4 kk
theorem q_callVN_i (hE : CX E V l cc own nL kR rc rs ret) {idx nL' k' n : Nat} {y : MethodName} {cc' : ByteArray} {ret' : Option FieldType} {As stk : List Value} {Ph B : Type} {X : Ph → Nat → va_E} {f : Option (Int32 × Ph)} {K : Int32 → Ph → Option B} {r : B} {a : Nat} {host : String} (hd : decode cc pc = .ok (.invokevirtual idx, 3)) (hM : MWV y cc' nL' ret' n) (hw : Cond.methodLinkNest own idx y host ∈ TN) (hk : Nat.ble (k' + 1) kR = true) (hL : Nat.ble nL' 44 = true) (hn : As.length = n) (hst : Nat.ble (st.map fun v => v.category).sum 8 = true) (hnc : nc ≤ rc) (hns : ns ≤ rs) (hstk : stk = As.reverse ++ rf V a :: st) {ci nn : Nat} {T : u_T} {ty0 : Nat → FieldType} {fs : List Value} (hC : KCl ci y.cls T nn ty0) (hG : G a = .inr (ci, fs)) (haN : Nat.ble (a + 1) N = true) (hc : ∀ (v : Int32) (h' : Ph), f = some (v, h') → Ctr l V y cc' nL' ret' k' (rf V a :: As) N G N (X h') (some (.int v)) 0 0) (hm : bnd f K = some r) (kk : ∀ (v : Int32) (h' : Ph), K v h' = some r → PW E V nc ns N (X h') (pc + 3) lv (.int v :: st)) : PW E V nc ns N G pc lv stk := by
  cases hf : f with
  | none => rw [hf] at hm; cases hm
  | some x =>
    rw [hf] at hm
    exact q_callVN hE hd (hc x.1 x.2 hf) hM hw hk hL hn hst hnc hns hstk hC hG haN (kk x.1 x.2 hm)
theorem q_callVN_l (hE : CX E V l cc own nL kR rc rs ret) {idx nL' k' n : Nat} {y : MethodName} {cc' : ByteArray} {ret' : Option FieldType} {As stk : List Value} {Ph B : Type} {X : Ph → Nat → va_E} {f : Option (Int64 × Ph)} {K : Int64 → Ph → Option B} {r : B} {a : Nat} {host : String} (hd : decode cc pc = .ok (.invokevirtual idx, 3)) (hM : MWV y cc' nL' ret' n) (hw : Cond.methodLinkNest own idx y host ∈ TN) (hk : Nat.ble (k' + 1) kR = true) (hL : Nat.ble nL' 44 = true) (hn : As.length = n) (hst : Nat.ble (st.map fun v => v.category).sum 8 = true) (hnc : nc ≤ rc) (hns : ns ≤ rs) (hstk : stk = As.reverse ++ rf V a :: st) {ci nn : Nat} {T : u_T} {ty0 : Nat → FieldType} {fs : List Value} (hC : KCl ci y.cls T nn ty0) (hG : G a = .inr (ci, fs)) (haN : Nat.ble (a + 1) N = true) (hc : ∀ (v : Int64) (h' : Ph), f = some (v, h') → Ctr l V y cc' nL' ret' k' (rf V a :: As) N G N (X h') (some (.long v)) 0 0) (hm : bnd f K = some r) (kk : ∀ (v : Int64) (h' : Ph), K v h' = some r → PW E V nc ns N (X h') (pc + 3) lv (.long v :: st)) : PW E V nc ns N G pc lv stk := by
  cases hf : f with
  | none => rw [hf] at hm; cases hm
  | some x =>
    rw [hf] at hm
    exact q_callVN hE hd (hc x.1 x.2 hf) hM hw hk hL hn hst hnc hns hstk hC hG haN (kk x.1 x.2 hm)
theorem q_callVN_v (hE : CX E V l cc own nL kR rc rs ret) {idx nL' k' n : Nat} {y : MethodName} {cc' : ByteArray} {ret' : Option FieldType} {As stk : List Value} {Ph B : Type} {X : Ph → Nat → va_E} {f : Option (Unit × Ph)} {K : Unit → Ph → Option B} {r : B} {a : Nat} {host : String} (hd : decode cc pc = .ok (.invokevirtual idx, 3)) (hM : MWV y cc' nL' ret' n) (hw : Cond.methodLinkNest own idx y host ∈ TN) (hk : Nat.ble (k' + 1) kR = true) (hL : Nat.ble nL' 44 = true) (hn : As.length = n) (hst : Nat.ble (st.map fun v => v.category).sum 8 = true) (hnc : nc ≤ rc) (hns : ns ≤ rs) (hstk : stk = As.reverse ++ rf V a :: st) {ci nn : Nat} {T : u_T} {ty0 : Nat → FieldType} {fs : List Value} (hC : KCl ci y.cls T nn ty0) (hG : G a = .inr (ci, fs)) (haN : Nat.ble (a + 1) N = true) (hc : ∀ (v : Unit) (h' : Ph), f = some (v, h') → Ctr l V y cc' nL' ret' k' (rf V a :: As) N G N (X h') (none) 0 0) (hm : bnd f K = some r) (kk : ∀ (v : Unit) (h' : Ph), K v h' = some r → PW E V nc ns N (X h') (pc + 3) lv (st)) : PW E V nc ns N G pc lv stk := by
  cases hf : f with
  | none => rw [hf] at hm; cases hm
  | some x =>
    rw [hf] at hm
    exact q_callVN hE hd (hc x.1 x.2 hf) hM hw hk hL hn hst hnc hns hstk hC hG haN (kk x.1 x.2 hm)
theorem q_callS (hE : CX E V l cc own nL kR rc rs ret) {idx nL' k' mc ms n : Nat} {y : MethodName} {cc' : ByteArray} {ret' : Option FieldType} {N' : Nat} {G' : Nat → va_E} {ov : Option Value} {As stk : List Value} (hd : decode cc pc = .ok (.invokestatic idx, 3)) (hc : Ctr l V y cc' nL' ret' k' As N G N' G' ov mc ms) (hM : MWS y cc' nL' ret' n) (hw : Cond.methodLink own idx y ∈ TG) (hk : Nat.ble (k' + 1) kR = true) (hL : Nat.ble nL' 44 = true) (hn : As.length = n) (hst : Nat.ble (st.map fun v => v.category).sum 8 = true) (hmc : nc + mc ≤ rc) (hms : ns + ms ≤ rs) (hstk : stk = As.reverse ++ st) (kk : PW E V (nc + mc) (ns + ms) N' G' (pc + 3) lv (ov.toList ++ st)) : PW E V nc ns N G pc lv stk := by
  obtain ⟨p, l0, e, R, s, m, args, below, meth, c, Q⟩ := E
  intro H locs ls h1 h2 h3 h4
  have hk9 := Nat.le_of_ble_eq_true hk
  have hL9 := Nat.le_of_ble_eq_true hL
  have hst9 := Nat.le_of_ble_eq_true hst
  have hF : kR ≤ R.frames := hE.2.2.2.2.2.2.1
  have hLo : 64 * kR ≤ R.locals := hE.2.2.2.2.2.2.2.1
  have hb : V.2.2.1 ≤ s.heap.size := hE.2.2.2.2.2.2.2.2.1
  have hC1 : rc ≤ R.cells := hE.2.2.2.2.2.2.2.2.2.1
  have hS1 : rs ≤ R.slots := hE.2.2.2.2.2.2.2.2.2.2.1
  have hll : l0 = l := hE.2.2.2.2.2.2.2.2.2.2.2.2.2
  subst hll
  subst hstk
  exact run_end (va_runS (As := As) (rest := st) ⟨hE.1, hE.2.1, hE.2.2.1, hE.2.2.2.1, hE.2.2.2.2.1⟩ hc ⟨⟨rfl, rfl, by show k' + 1 ≤ _; omega, by show 8 + (nL' + 11) + 64 * k' ≤ _; omega, mw_pay hE.2.2.2.2.1 hM.1.1, List.mem_cons_self, hE.2.2.2.2.1 _ hM.1.1, hE.2.2.2.2.1 _ hM.1.2.1, hM.1.2.2.1, mw_sig hM.1.2.2.2, hE.2.2.2.2.1 _ hw⟩, hE.2.2.2.2.1 _ hM.2⟩ ⟨SW.blind, fun U hU hW => SW.here h1 h2 h3 hb hE.2.2.2.2.2.1 hU hW⟩ rfl hn (h4.1.trans hE.2.2.1) rfl (lv_room hst9) hd ⟨by omega, by omega⟩) hb h3 h4 kk
theorem q_callS_i (hE : CX E V l cc own nL kR rc rs ret) {idx nL' k' n : Nat} {y : MethodName} {cc' : ByteArray} {ret' : Option FieldType} {As stk : List Value} {Ph B : Type} {X : Ph → Nat → va_E} {f : Option (Int32 × Ph)} {K : Int32 → Ph → Option B} {r : B} (hd : decode cc pc = .ok (.invokestatic idx, 3)) (hM : MWS y cc' nL' ret' n) (hw : Cond.methodLink own idx y ∈ TG) (hk : Nat.ble (k' + 1) kR = true) (hL : Nat.ble nL' 44 = true) (hn : As.length = n) (hst : Nat.ble (st.map fun v => v.category).sum 8 = true) (hnc : nc ≤ rc) (hns : ns ≤ rs) (hstk : stk = As.reverse ++ st) (hc : ∀ (v : Int32) (h' : Ph), f = some (v, h') → Ctr l V y cc' nL' ret' k' As N G N (X h') (some (.int v)) 0 0) (hm : bnd f K = some r) (kk : ∀ (v : Int32) (h' : Ph), K v h' = some r → PW E V nc ns N (X h') (pc + 3) lv (.int v :: st)) : PW E V nc ns N G pc lv stk := by
  cases hf : f with
  | none => rw [hf] at hm; cases hm
  | some x =>
    rw [hf] at hm
    exact q_callS hE hd (hc x.1 x.2 hf) hM hw hk hL hn hst hnc hns hstk (kk x.1 x.2 hm)
theorem q_callS_l (hE : CX E V l cc own nL kR rc rs ret) {idx nL' k' n : Nat} {y : MethodName} {cc' : ByteArray} {ret' : Option FieldType} {As stk : List Value} {Ph B : Type} {X : Ph → Nat → va_E} {f : Option (Int64 × Ph)} {K : Int64 → Ph → Option B} {r : B} (hd : decode cc pc = .ok (.invokestatic idx, 3)) (hM : MWS y cc' nL' ret' n) (hw : Cond.methodLink own idx y ∈ TG) (hk : Nat.ble (k' + 1) kR = true) (hL : Nat.ble nL' 44 = true) (hn : As.length = n) (hst : Nat.ble (st.map fun v => v.category).sum 8 = true) (hnc : nc ≤ rc) (hns : ns ≤ rs) (hstk : stk = As.reverse ++ st) (hc : ∀ (v : Int64) (h' : Ph), f = some (v, h') → Ctr l V y cc' nL' ret' k' As N G N (X h') (some (.long v)) 0 0) (hm : bnd f K = some r) (kk : ∀ (v : Int64) (h' : Ph), K v h' = some r → PW E V nc ns N (X h') (pc + 3) lv (.long v :: st)) : PW E V nc ns N G pc lv stk := by
  cases hf : f with
  | none => rw [hf] at hm; cases hm
  | some x =>
    rw [hf] at hm
    exact q_callS hE hd (hc x.1 x.2 hf) hM hw hk hL hn hst hnc hns hstk (kk x.1 x.2 hm)
theorem q_callS_v (hE : CX E V l cc own nL kR rc rs ret) {idx nL' k' n : Nat} {y : MethodName} {cc' : ByteArray} {ret' : Option FieldType} {As stk : List Value} {Ph B : Type} {X : Ph → Nat → va_E} {f : Option (Unit × Ph)} {K : Unit → Ph → Option B} {r : B} (hd : decode cc pc = .ok (.invokestatic idx, 3)) (hM : MWS y cc' nL' ret' n) (hw : Cond.methodLink own idx y ∈ TG) (hk : Nat.ble (k' + 1) kR = true) (hL : Nat.ble nL' 44 = true) (hn : As.length = n) (hst : Nat.ble (st.map fun v => v.category).sum 8 = true) (hnc : nc ≤ rc) (hns : ns ≤ rs) (hstk : stk = As.reverse ++ st) (hc : ∀ (v : Unit) (h' : Ph), f = some (v, h') → Ctr l V y cc' nL' ret' k' As N G N (X h') (none) 0 0) (hm : bnd f K = some r) (kk : ∀ (v : Unit) (h' : Ph), K v h' = some r → PW E V nc ns N (X h') (pc + 3) lv (st)) : PW E V nc ns N G pc lv stk := by
  cases hf : f with
  | none => rw [hf] at hm; cases hm
  | some x =>
    rw [hf] at hm
    exact q_callS hE hd (hc x.1 x.2 hf) hM hw hk hL hn hst hnc hns hstk (kk x.1 x.2 hm)
theorem q_callSN (hE : CX E V l cc own nL kR rc rs ret) {idx nL' k' mc ms n : Nat} {y : MethodName} {cc' : ByteArray} {ret' : Option FieldType} {N' : Nat} {G' : Nat → va_E} {ov : Option Value} {As stk : List Value} {host : String} (hd : decode cc pc = .ok (.invokestatic idx, 3)) (hc : Ctr l V y cc' nL' ret' k' As N G N' G' ov mc ms) (hM : MWS y cc' nL' ret' n) (hw : Cond.methodLinkNest own idx y host ∈ TN) (hk : Nat.ble (k' + 1) kR = true) (hL : Nat.ble nL' 44 = true) (hn : As.length = n) (hst : Nat.ble (st.map fun v => v.category).sum 8 = true) (hmc : nc + mc ≤ rc) (hms : ns + ms ≤ rs) (hstk : stk = As.reverse ++ st) (kk : PW E V (nc + mc) (ns + ms) N' G' (pc + 3) lv (ov.toList ++ st)) : PW E V nc ns N G pc lv stk := by
  obtain ⟨p, l0, e, R, s, m, args, below, meth, c, Q⟩ := E
  intro H locs ls h1 h2 h3 h4
  have hk9 := Nat.le_of_ble_eq_true hk
  have hL9 := Nat.le_of_ble_eq_true hL
  have hst9 := Nat.le_of_ble_eq_true hst
  have hF : kR ≤ R.frames := hE.2.2.2.2.2.2.1
  have hLo : 64 * kR ≤ R.locals := hE.2.2.2.2.2.2.2.1
  have hb : V.2.2.1 ≤ s.heap.size := hE.2.2.2.2.2.2.2.2.1
  have hC1 : rc ≤ R.cells := hE.2.2.2.2.2.2.2.2.2.1
  have hS1 : rs ≤ R.slots := hE.2.2.2.2.2.2.2.2.2.2.1
  have hll : l0 = l := hE.2.2.2.2.2.2.2.2.2.2.2.2.2
  subst hll
  subst hstk
  exact run_end (va_runSN (As := As) (rest := st) ⟨hE.1, hE.2.1, hE.2.2.1, hE.2.2.2.1, hE.2.2.2.2.1⟩ hc ⟨⟨⟨rfl, rfl, by show k' + 1 ≤ _; omega, by show 8 + (nL' + 11) + 64 * k' ≤ _; omega, mw_pay hE.2.2.2.2.1 hM.1.1, List.mem_cons_self⟩, hE.2.2.2.2.1 _ hM.1.1, hE.2.2.2.2.1 _ hM.1.2.1, hM.1.2.2.1, mw_sig hM.1.2.2.2, va_Nw.use rfl (hE.2.2.2.2.2.1.2.1 _ hw)⟩, hE.2.2.2.2.1 _ hM.2, trivial⟩ ⟨SW.blind, fun U hU hW => SW.here h1 h2 h3 hb hE.2.2.2.2.2.1 hU hW⟩ rfl hn (h4.1.trans hE.2.2.1) rfl (lv_room hst9) hd ⟨by omega, by omega⟩) hb h3 h4 kk
theorem q_callSN_i (hE : CX E V l cc own nL kR rc rs ret) {idx nL' k' n : Nat} {y : MethodName} {cc' : ByteArray} {ret' : Option FieldType} {As stk : List Value} {Ph B : Type} {X : Ph → Nat → va_E} {f : Option (Int32 × Ph)} {K : Int32 → Ph → Option B} {r : B} {host : String} (hd : decode cc pc = .ok (.invokestatic idx, 3)) (hM : MWS y cc' nL' ret' n) (hw : Cond.methodLinkNest own idx y host ∈ TN) (hk : Nat.ble (k' + 1) kR = true) (hL : Nat.ble nL' 44 = true) (hn : As.length = n) (hst : Nat.ble (st.map fun v => v.category).sum 8 = true) (hnc : nc ≤ rc) (hns : ns ≤ rs) (hstk : stk = As.reverse ++ st) (hc : ∀ (v : Int32) (h' : Ph), f = some (v, h') → Ctr l V y cc' nL' ret' k' As N G N (X h') (some (.int v)) 0 0) (hm : bnd f K = some r) (kk : ∀ (v : Int32) (h' : Ph), K v h' = some r → PW E V nc ns N (X h') (pc + 3) lv (.int v :: st)) : PW E V nc ns N G pc lv stk := by
  cases hf : f with
  | none => rw [hf] at hm; cases hm
  | some x =>
    rw [hf] at hm
    exact q_callSN hE hd (hc x.1 x.2 hf) hM hw hk hL hn hst hnc hns hstk (kk x.1 x.2 hm)
theorem q_callSN_l (hE : CX E V l cc own nL kR rc rs ret) {idx nL' k' n : Nat} {y : MethodName} {cc' : ByteArray} {ret' : Option FieldType} {As stk : List Value} {Ph B : Type} {X : Ph → Nat → va_E} {f : Option (Int64 × Ph)} {K : Int64 → Ph → Option B} {r : B} {host : String} (hd : decode cc pc = .ok (.invokestatic idx, 3)) (hM : MWS y cc' nL' ret' n) (hw : Cond.methodLinkNest own idx y host ∈ TN) (hk : Nat.ble (k' + 1) kR = true) (hL : Nat.ble nL' 44 = true) (hn : As.length = n) (hst : Nat.ble (st.map fun v => v.category).sum 8 = true) (hnc : nc ≤ rc) (hns : ns ≤ rs) (hstk : stk = As.reverse ++ st) (hc : ∀ (v : Int64) (h' : Ph), f = some (v, h') → Ctr l V y cc' nL' ret' k' As N G N (X h') (some (.long v)) 0 0) (hm : bnd f K = some r) (kk : ∀ (v : Int64) (h' : Ph), K v h' = some r → PW E V nc ns N (X h') (pc + 3) lv (.long v :: st)) : PW E V nc ns N G pc lv stk := by
  cases hf : f with
  | none => rw [hf] at hm; cases hm
  | some x =>
    rw [hf] at hm
    exact q_callSN hE hd (hc x.1 x.2 hf) hM hw hk hL hn hst hnc hns hstk (kk x.1 x.2 hm)
theorem q_callSN_v (hE : CX E V l cc own nL kR rc rs ret) {idx nL' k' n : Nat} {y : MethodName} {cc' : ByteArray} {ret' : Option FieldType} {As stk : List Value} {Ph B : Type} {X : Ph → Nat → va_E} {f : Option (Unit × Ph)} {K : Unit → Ph → Option B} {r : B} {host : String} (hd : decode cc pc = .ok (.invokestatic idx, 3)) (hM : MWS y cc' nL' ret' n) (hw : Cond.methodLinkNest own idx y host ∈ TN) (hk : Nat.ble (k' + 1) kR = true) (hL : Nat.ble nL' 44 = true) (hn : As.length = n) (hst : Nat.ble (st.map fun v => v.category).sum 8 = true) (hnc : nc ≤ rc) (hns : ns ≤ rs) (hstk : stk = As.reverse ++ st) (hc : ∀ (v : Unit) (h' : Ph), f = some (v, h') → Ctr l V y cc' nL' ret' k' As N G N (X h') (none) 0 0) (hm : bnd f K = some r) (kk : ∀ (v : Unit) (h' : Ph), K v h' = some r → PW E V nc ns N (X h') (pc + 3) lv (st)) : PW E V nc ns N G pc lv stk := by
  cases hf : f with
  | none => rw [hf] at hm; cases hm
  | some x =>
    rw [hf] at hm
    exact q_callSN hE hd (hc x.1 x.2 hf) hM hw hk hL hn hst hnc hns hstk (kk x.1 x.2 hm)
theorem q_callI (hE : CX E V l cc own nL kR rc rs ret) {idx nL' k' mc ms n : Nat} {y : MethodName} {cc' : ByteArray} {ret' : Option FieldType} {N' : Nat} {G' : Nat → va_E} {ov : Option Value} {As stk : List Value} {a : Nat} (hd : decode cc pc = .ok (.invokespecial idx, 3)) (hc : Ctr l V y cc' nL' ret' k' (rf V a :: As) N G N' G' ov mc ms) (hM : MWI y cc' nL' ret' n) (hw : Cond.methodLink own idx y ∈ TG) (hk : Nat.ble (k' + 1) kR = true) (hL : Nat.ble nL' 44 = true) (hn : As.length = n) (hst : Nat.ble (st.map fun v => v.category).sum 8 = true) (hmc : nc + mc ≤ rc) (hms : ns + ms ≤ rs) (hstk : stk = As.reverse ++ rf V a :: st) (hri : ret' = none) (kk : PW E V (nc + mc) (ns + ms) N' G' (pc + 3) lv (ov.toList ++ st)) : PW E V nc ns N G pc lv stk := by
  obtain ⟨p, l0, e, R, s, m, args, below, meth, c, Q⟩ := E
  intro H locs ls h1 h2 h3 h4
  have hk9 := Nat.le_of_ble_eq_true hk
  have hL9 := Nat.le_of_ble_eq_true hL
  have hst9 := Nat.le_of_ble_eq_true hst
  have hF : kR ≤ R.frames := hE.2.2.2.2.2.2.1
  have hLo : 64 * kR ≤ R.locals := hE.2.2.2.2.2.2.2.1
  have hb : V.2.2.1 ≤ s.heap.size := hE.2.2.2.2.2.2.2.2.1
  have hC1 : rc ≤ R.cells := hE.2.2.2.2.2.2.2.2.2.1
  have hS1 : rs ≤ R.slots := hE.2.2.2.2.2.2.2.2.2.2.1
  have hll : l0 = l := hE.2.2.2.2.2.2.2.2.2.2.2.2.2
  subst hll
  subst hstk
  subst hri
  exact run_end (va_runI (As := As) (rest := st) ⟨hE.1, hE.2.1, hE.2.2.1, hE.2.2.2.1, hE.2.2.2.2.1⟩ hc ⟨⟨rfl, rfl, by show k' + 1 ≤ _; omega, by show 8 + (nL' + 11) + 64 * k' ≤ _; omega, mw_pay hE.2.2.2.2.1 hM.1.1, List.mem_cons_self, hE.2.2.2.2.1 _ hM.1.1, hE.2.2.2.2.1 _ hM.1.2.1, hM.1.2.2.1, mw_sig hM.1.2.2.2, hE.2.2.2.2.1 _ hw⟩, hM.2.1, hE.2.2.2.2.1 _ hM.2.2⟩ ⟨SW.blind, fun U hU hW => SW.here h1 h2 h3 hb hE.2.2.2.2.2.1 hU hW⟩ rfl hn (h4.1.trans hE.2.2.1) rfl (lv_room hst9) hd ⟨by omega, by omega⟩) hb h3 h4 kk
theorem q_callIN (hE : CX E V l cc own nL kR rc rs ret) {idx nL' k' mc ms n : Nat} {y : MethodName} {cc' : ByteArray} {ret' : Option FieldType} {N' : Nat} {G' : Nat → va_E} {ov : Option Value} {As stk : List Value} {a : Nat} {host : String} (hd : decode cc pc = .ok (.invokespecial idx, 3)) (hc : Ctr l V y cc' nL' ret' k' (rf V a :: As) N G N' G' ov mc ms) (hM : MWI y cc' nL' ret' n) (hw : Cond.methodLinkNest own idx y host ∈ TN) (hk : Nat.ble (k' + 1) kR = true) (hL : Nat.ble nL' 44 = true) (hn : As.length = n) (hst : Nat.ble (st.map fun v => v.category).sum 8 = true) (hmc : nc + mc ≤ rc) (hms : ns + ms ≤ rs) (hstk : stk = As.reverse ++ rf V a :: st) (hri : ret' = none) (kk : PW E V (nc + mc) (ns + ms) N' G' (pc + 3) lv (ov.toList ++ st)) : PW E V nc ns N G pc lv stk := by
  obtain ⟨p, l0, e, R, s, m, args, below, meth, c, Q⟩ := E
  intro H locs ls h1 h2 h3 h4
  have hk9 := Nat.le_of_ble_eq_true hk
  have hL9 := Nat.le_of_ble_eq_true hL
  have hst9 := Nat.le_of_ble_eq_true hst
  have hF : kR ≤ R.frames := hE.2.2.2.2.2.2.1
  have hLo : 64 * kR ≤ R.locals := hE.2.2.2.2.2.2.2.1
  have hb : V.2.2.1 ≤ s.heap.size := hE.2.2.2.2.2.2.2.2.1
  have hC1 : rc ≤ R.cells := hE.2.2.2.2.2.2.2.2.2.1
  have hS1 : rs ≤ R.slots := hE.2.2.2.2.2.2.2.2.2.2.1
  have hll : l0 = l := hE.2.2.2.2.2.2.2.2.2.2.2.2.2
  subst hll
  subst hstk
  subst hri
  exact run_end (va_runIN (As := As) (rest := st) ⟨hE.1, hE.2.1, hE.2.2.1, hE.2.2.2.1, hE.2.2.2.2.1⟩ hc ⟨⟨⟨rfl, rfl, by show k' + 1 ≤ _; omega, by show 8 + (nL' + 11) + 64 * k' ≤ _; omega, mw_pay hE.2.2.2.2.1 hM.1.1, List.mem_cons_self⟩, hE.2.2.2.2.1 _ hM.1.1, hE.2.2.2.2.1 _ hM.1.2.1, hM.1.2.2.1, mw_sig hM.1.2.2.2, va_Nw.use rfl (hE.2.2.2.2.2.1.2.1 _ hw)⟩, hM.2.1, hE.2.2.2.2.1 _ hM.2.2⟩ ⟨SW.blind, fun U hU hW => SW.here h1 h2 h3 hb hE.2.2.2.2.2.1 hU hW⟩ rfl hn (h4.1.trans hE.2.2.1) rfl (lv_room hst9) hd ⟨by omega, by omega⟩) hb h3 h4 kk
theorem q_iret0 (hE : CX E V l cc own nL kR rc rs ret) {ov : Option Value} {mc ms : Nat} {v : Int32} (hd : decode cc pc = .ok (.ireturn, 1)) (hQ : RQ E V N G ov mc ms) (hnc : nc ≤ mc) (hns : ns ≤ ms) (hov : ov = some (.int v)) (hr0 : ret = some .int) : PW E V nc ns N G pc lv [.int v] := by
  obtain ⟨p, l0, e, R, s, m, args, below, meth, c, Q⟩ := E
  intro H locs ls h1 h2 h3 h4
  have hQ : Q = MQ below (QcM V N G ov) args s mc ms (fun q => V.2.2.1 ≤ q) := hQ
  subst hQ
  have hret : meth.sig.returnType = ret := hE.2.2.2.2.2.2.2.2.2.2.2.2.1
  have hlk : meth.locks = false := hE.2.2.2.2.2.2.2.2.2.2.2.1
  have hb : V.2.2.1 ≤ s.heap.size := hE.2.2.2.2.2.2.2.2.1
  refine W.widen hnc hns ?_
  refine W.iret hE.1 hE.2.1 (hret.trans hr0) (fun t ht hW => ?_) h3.2.2 hd hlk
  refine ⟨by rw [hov], ⟨by rw [ht]; exact h1, by rw [ht]; exact h2, by rw [ht]; exact Nat.le_trans hb h3.1, ?_⟩, h3.F ht⟩
  rw [ht]
  exact ST.kept (ST.warm hW hE.2.2.2.2.2.1) (fun a ha hn => h3.2.1 a ha hn)
theorem q_zret0 (hE : CX E V l cc own nL kR rc rs ret) {ov : Option Value} {mc ms : Nat} {v : Int32} {ty : FieldType} (hd : decode cc pc = .ok (.ireturn, 1)) (hQ : RQ E V N G ov mc ms) (hnc : nc ≤ mc) (hns : ns ≤ ms) (hov : ov = some (.int v)) (hr0 : ret = some ty) (hn : narrow ty (.int v) = .int v) : PW E V nc ns N G pc lv [.int v] := by
  obtain ⟨p, l0, e, R, s, m, args, below, meth, c, Q⟩ := E
  intro H locs ls h1 h2 h3 h4
  have hQ : Q = MQ below (QcM V N G ov) args s mc ms (fun q => V.2.2.1 ≤ q) := hQ
  subst hQ
  have hret : meth.sig.returnType = ret := hE.2.2.2.2.2.2.2.2.2.2.2.2.1
  have hlk : meth.locks = false := hE.2.2.2.2.2.2.2.2.2.2.2.1
  have hb : V.2.2.1 ≤ s.heap.size := hE.2.2.2.2.2.2.2.2.1
  refine W.widen hnc hns ?_
  refine W.zret hE.1 hE.2.1 (hret.trans hr0) hn (fun t ht hW => ?_) h3.2.2 hd hlk
  refine ⟨by rw [hov], ⟨by rw [ht]; exact h1, by rw [ht]; exact h2, by rw [ht]; exact Nat.le_trans hb h3.1, ?_⟩, h3.F ht⟩
  rw [ht]
  exact ST.kept (ST.warm hW hE.2.2.2.2.2.1) (fun a ha hn => h3.2.1 a ha hn)
theorem q_lret0 (hE : CX E V l cc own nL kR rc rs ret) {ov : Option Value} {mc ms : Nat} {v : Int64} (hd : decode cc pc = .ok (.lreturn, 1)) (hQ : RQ E V N G ov mc ms) (hnc : nc ≤ mc) (hns : ns ≤ ms) (hov : ov = some (.long v)) (hr0 : ret = some .long) : PW E V nc ns N G pc lv [.long v] := by
  obtain ⟨p, l0, e, R, s, m, args, below, meth, c, Q⟩ := E
  intro H locs ls h1 h2 h3 h4
  have hQ : Q = MQ below (QcM V N G ov) args s mc ms (fun q => V.2.2.1 ≤ q) := hQ
  subst hQ
  have hret : meth.sig.returnType = ret := hE.2.2.2.2.2.2.2.2.2.2.2.2.1
  have hlk : meth.locks = false := hE.2.2.2.2.2.2.2.2.2.2.2.1
  have hb : V.2.2.1 ≤ s.heap.size := hE.2.2.2.2.2.2.2.2.1
  refine W.widen hnc hns ?_
  refine W.lret hE.1 hE.2.1 (hret.trans hr0) (fun t ht hW => ?_) h3.2.2 hd hlk
  refine ⟨by rw [hov], ⟨by rw [ht]; exact h1, by rw [ht]; exact h2, by rw [ht]; exact Nat.le_trans hb h3.1, ?_⟩, h3.F ht⟩
  rw [ht]
  exact ST.kept (ST.warm hW hE.2.2.2.2.2.1) (fun a ha hn => h3.2.1 a ha hn)
theorem q_vret0 (hE : CX E V l cc own nL kR rc rs ret) {ov : Option Value} {mc ms : Nat} (hd : decode cc pc = .ok (.return_, 1)) (hQ : RQ E V N G ov mc ms) (hnc : nc ≤ mc) (hns : ns ≤ ms) (hov : ov = none) (hr0 : ret = none) : PW E V nc ns N G pc lv [] := by
  obtain ⟨p, l0, e, R, s, m, args, below, meth, c, Q⟩ := E
  intro H locs ls h1 h2 h3 h4
  have hQ : Q = MQ below (QcM V N G ov) args s mc ms (fun q => V.2.2.1 ≤ q) := hQ
  subst hQ
  have hret : meth.sig.returnType = ret := hE.2.2.2.2.2.2.2.2.2.2.2.2.1
  have hlk : meth.locks = false := hE.2.2.2.2.2.2.2.2.2.2.2.1
  have hb : V.2.2.1 ≤ s.heap.size := hE.2.2.2.2.2.2.2.2.1
  refine W.widen hnc hns ?_
  refine W.vret hE.1 hE.2.1 (hret.trans hr0) (fun t ht hW => ?_) h3.2.2 hd hlk
  refine ⟨by rw [hov], ⟨by rw [ht]; exact h1, by rw [ht]; exact h2, by rw [ht]; exact Nat.le_trans hb h3.1, ?_⟩, h3.F ht⟩
  rw [ht]
  exact ST.kept (ST.warm hW hE.2.2.2.2.2.1) (fun a ha hn => h3.2.1 a ha hn)
theorem W.zret2 {p : Program} {l : Launch} {e : Env} {R : Room} {s : State} {m : MethodId} {args : Array Value} {below : List Frame} {meth : Method} {c : Code} {H : Heap} {locs : List Loc} {cells slots : Nat} {cc : ByteArray} {Qc : Array Value → State → Outcome → State → Prop} {free : Addr → Prop} {v v' : Int32} {ty : FieldType} (hexec : p.tables.exec = Jvm.exec) (hb : c.code = cc) (hr : meth.sig.returnType = some ty) (hn : narrow ty (.int v) = .int v')
    (hq : ∀ t : State, t.heap = H → s.WarmedH t.vm → Qc args s (.returned (some (.int v'))) t) (hf : ∀ q ∈ locs, free q.base)
    {pc : Nat} {ls : Array Slot} (hdg : decode cc pc = .ok (.ireturn, 1)) (hlocks : meth.locks = false) : W p l e R s m args below meth c H locs cells slots (MQ below Qc args s cells slots free) (F0 m pc ls [.int v]) := by
  intro T hT X
  obtain ⟨fs, hret, hrun, hended, hW, hframe⟩ := X.leave (v := some (.int v')) (fun h => by rw [hr] at h; cases h)
  have hmeth' : T.vm.method? m = some meth := X.method'
  refine ⟨T.setFrames fs, ?_, .returned (some (.int v')), hrun, hended, hq _ hT hW, locs, ⟨⟨_, rfl⟩, hW, hframe⟩, hf⟩
  jvm_step X.here [X.here.top, hexec, hb, hdg, hmeth', hr, hn]
  (try refine ⟨rfl, ?_⟩); (try refine ⟨rfl, ?_⟩)
  first | (intro acts; rw [hret _ acts rfl rfl rfl]) | rw [hret _ _ rfl rfl rfl]
  exact Steps.refl _
theorem q_bret0 (hE : CX E V l cc own nL kR rc rs ret) {ov : Option Value} {mc ms : Nat} {v v' : Int32} {ty : FieldType} (hd : decode cc pc = .ok (.ireturn, 1)) (hQ : RQ E V N G ov mc ms) (hnc : nc ≤ mc) (hns : ns ≤ ms) (hov : ov = some (.int v')) (hr0 : ret = some ty) (hn : narrow ty (.int v) = .int v') : PW E V nc ns N G pc lv [.int v] := by
  obtain ⟨p, l0, e, R, s, m, args, below, meth, c, Q⟩ := E
  intro H locs ls h1 h2 h3 h4
  have hQ : Q = MQ below (QcM V N G ov) args s mc ms (fun q => V.2.2.1 ≤ q) := hQ
  subst hQ
  have hret : meth.sig.returnType = ret := hE.2.2.2.2.2.2.2.2.2.2.2.2.1
  have hlk : meth.locks = false := hE.2.2.2.2.2.2.2.2.2.2.2.1
  have hb : V.2.2.1 ≤ s.heap.size := hE.2.2.2.2.2.2.2.2.1
  refine W.widen hnc hns ?_
  refine W.zret2 hE.1 hE.2.1 (hret.trans hr0) hn (fun t ht hW => ?_) h3.2.2 hd hlk
  refine ⟨by rw [hov], ⟨by rw [ht]; exact h1, by rw [ht]; exact h2, by rw [ht]; exact Nat.le_trans hb h3.1, ?_⟩, h3.F ht⟩
  rw [ht]
  exact ST.kept (ST.warm hW hE.2.2.2.2.2.1) (fun a ha hn => h3.2.1 a ha hn)
theorem q_iret (hE : CX E V l cc own nL kR rc rs ret) {Ph : Type} {X : Ph → Nat → va_E} {v : Int32} {h : Ph} {r : Int32 × Ph} (hd : decode cc pc = .ok (.ireturn, 1)) (hm : some (v, h) = some r) (hQ : RQ E V N (X r.2) (some (.int r.1)) 0 0) (hr0 : ret = some .int) : PW E V 0 0 N (X h) pc lv [.int v] := by
  have hm := Option.some.inj hm
  subst hm
  exact q_iret0 hE hd hQ (Nat.le_refl _) (Nat.le_refl _) rfl hr0
theorem q_lret (hE : CX E V l cc own nL kR rc rs ret) {Ph : Type} {X : Ph → Nat → va_E} {v : Int64} {h : Ph} {r : Int64 × Ph} (hd : decode cc pc = .ok (.lreturn, 1)) (hm : some (v, h) = some r) (hQ : RQ E V N (X r.2) (some (.long r.1)) 0 0) (hr0 : ret = some .long) : PW E V 0 0 N (X h) pc lv [.long v] := by
  have hm := Option.some.inj hm
  subst hm
  exact q_lret0 hE hd hQ (Nat.le_refl _) (Nat.le_refl _) rfl hr0
theorem q_bret (hE : CX E V l cc own nL kR rc rs ret) {Ph : Type} {X : Ph → Nat → va_E} {v v' : Int32} {ty : FieldType} {h : Ph} {r : Int32 × Ph} (hd : decode cc pc = .ok (.ireturn, 1)) (hm : some (v', h) = some r) (hQ : RQ E V N (X r.2) (some (.int r.1)) 0 0) (hr0 : ret = some ty) (hn : narrow ty (.int v) = .int v') : PW E V 0 0 N (X h) pc lv [.int v] := by
  have hm := Option.some.inj hm
  subst hm
  exact q_bret0 hE hd hQ (Nat.le_refl _) (Nat.le_refl _) rfl hr0 hn
theorem q_vret (hE : CX E V l cc own nL kR rc rs ret) {Ph : Type} {X : Ph → Nat → va_E} {h : Ph} {r : Unit × Ph} (hd : decode cc pc = .ok (.return_, 1)) (hm : some ((), h) = some r) (hQ : RQ E V N (X r.2) none 0 0) (hr0 : ret = none) : PW E V 0 0 N (X h) pc lv [] := by
  have hm := Option.some.inj hm
  subst hm
  exact q_vret0 hE hd hQ (Nat.le_refl _) (Nat.le_refl _) rfl hr0
theorem q_sub (hE : CX E V l cc own nL kR rc rs ret) (ps : List Nat) {lv' : List (Nat × Value)} (hl : lv_pick lv ps = lv') (kk : PW E V nc ns N G pc lv' st) : PW E V nc ns N G pc lv st := by
  obtain ⟨p, l0, e, R, s, m, args, below, meth, c, Q⟩ := E
  intro H locs ls h1 h2 h3 h4
  exact kk H locs ls h1 h2 h3 (lv_sub h4 ps hl)
end Rows
theorem W_sz {p : Program} {l : Launch} {e : Env} {R : Room} {s : State} {m : MethodId} {args : Array Value} {below : List Frame} {meth : Method} {c : Code} {H : Heap} {locs : List Loc} {nc ns : Nat} {Q : State → Prop} {g : JFrame} (h : W p l e R s m args below meth c H locs nc ns Q g) : W p l e R s m args below meth c H locs nc ns Q g := h
end
section
-- the pure heap: ints by cell and place, longs, references that may change
abbrev PH : Type := (Nat → Nat → Int32) × (Nat → Nat → Int64) × (Nat → Nat → Option Nat)
def rowI (h : PH) (k : Nat) (f : Nat → Int32) : PH := (va_up h.1 k f, h.2)
def wI (h : PH) (k i : Nat) (x : Int32) : PH := rowI h k (upd (h.1 k) i x)
def rowL (h : PH) (k : Nat) (f : Nat → Int64) : PH := (h.1, va_up h.2.1 k f, h.2.2)
def wL (h : PH) (k i : Nat) (x : Int64) : PH := rowL h k (vp_updL (h.2.1 k) i x)
def wR (h : PH) (k i : Nat) (x : Option Nat) : PH := (h.1, h.2.1, va_up h.2.2 k (va_up (h.2.2 k) i x))
def kdl : List Nat := [9, 7, 21, 21, 21, 21, 3, 21, 23, 6, 21, 6, 21, 6, 21, 21, 7, 21, 21, 21, 21, 3, 21, 23, 6, 21, 6, 21, 6, 21, 21, 5, 20, 24, 1, 3, 21, 23, 4, 25, 21, 21, 3, 21, 23, 3, 21, 23, 3, 21, 23, 3, 21, 23, 3, 21, 23, 3, 21, 23, 3, 21, 23, 0, 21, 26, 2, 21, 21, 21, 2, 21, 21, 21, 2, 21, 21, 21, 2, 21, 21, 21, 2, 21, 21, 21, 2, 21, 21, 21, 8, 22, 8, 22, 8, 22, 8, 22, 8, 22, 8, 22, 10, 21, 21, 21, 21, 21, 21, 21, 21, 21, 21, 21, 21, 21, 23, 21, 21, 21, 21, 21, 21, 21, 21, 21, 21, 21, 21, 21, 21, 21, 21, 21, 21, 21, 21, 21, 21, 21, 21, 22, 22]
def lnl : List Nat := [0, 0, 6, 6, 24, 606, 0, 6, 6, 0, 15, 0, 30, 0, 24, 6, 0, 6, 6, 24, 606, 0, 6, 6, 0, 15, 0, 30, 0, 24, 6, 0, 100, 6, 0, 0, 6, 6, 0, 7, 6, 6, 0, 6, 6, 0, 6, 6, 0, 6, 6, 0, 6, 6, 0, 6, 6, 0, 6, 6, 0, 6, 6, 0, 20, 6, 0, 10, 10, 100, 0, 10, 10, 100, 0, 10, 10, 100, 0, 10, 10, 100, 0, 10, 10, 100, 0, 10, 10, 100, 0, 60, 0, 60, 0, 60, 0, 60, 0, 60, 0, 60, 0, 6, 6, 6, 24, 100, 6, 60, 60, 60, 60, 600, 101, 12, 100, 4800, 6, 6, 6, 6, 5, 5, 5, 10, 8, 8, 6, 6, 6, 24, 5, 5, 5, 10, 8, 8, 20, 6, 6, 360, 60]
def lnA (k : Nat) : Nat := lnl.getD k 0
def el (V : Ev) (h : PH) (k : Nat) : va_E := match kdl.getD k 99 with
  | 0 => .inr (0, [rf V 64, .int (h.1 k 1), .int (h.1 k 2), .int (h.1 k 3), .int (h.1 k 4)])
  | 1 => .inr (1, [rf V 1, rf V 35, .int (h.1 k 2), .int (h.1 k 3)])
  | 2 => .inr (2, [.int (h.1 k 0), .int (h.1 k 1), rf V (k + 1), rf V (k + 2), .int (h.1 k 4), rf V (k + 3)])
  | 3 => .inr (3, [.int (h.1 k 0), rf V (k + 1), rf V (k + 2)])
  | 4 => .inr (4, [rf V 1, rf V 39, rf V 40, rf V 41, .int (h.1 k 4)])
  | 5 => .inr (5, [rf V 32, .int (h.1 k 1), .int (h.1 k 2), .int (h.1 k 3), .int (h.1 k 4), rq V (h.2.2 k 5)])
  | 6 => .inr (6, [.int (h.1 k 0), rf V (k + 1), .int (h.1 k 2)])
  | 7 => .inr (7, [.int (h.1 k 0), rf V (k + 1), rf V (k + 2), rf V (k + 3), rf V (k + 4), rf V (k + 5), rf V (k + 8), rf V (k + 10), rf V (k + 12), rf V (k + 14), rq V (h.2.2 k 10)])
  | 8 => .inr (8, [.int (h.1 k 0), .int (h.1 k 1), rf V (k + 1)])
  | 9 => .inr (9, [rf V 1, rf V 16, .int (h.1 k 2), rf V 31, rf V 33, .int (h.1 k 5), rf V 34, rf V 38, rf V 63, rf V 65])
  | 10 => .inr (10, [.int (h.1 k 0), .int (h.1 k 1), .int (h.1 k 2), rf V 103, rf V 104, rf V 105, rf V 106, .int (h.1 k 7), .int (h.1 k 8), .int (h.1 k 9), .int (h.1 k 10), .int (h.1 k 11), rf V 107, rf V 108, rf V 109, rf V 110, rf V 111, rf V 112, rf V 113, rf V 114, .int (h.1 k 20), .int (h.1 k 21), .int (h.1 k 22), rf V 115, rf V 116, .int (h.1 k 25), rf V 117, rf V 118, .int (h.1 k 28), .int (h.1 k 29), rf V 119, rf V 120, rf V 121, .int (h.1 k 33), rf V 122, rf V 123, rf V 124, .int (h.1 k 37), .int (h.1 k 38), rf V 125, rf V 126, rf V 127, .int (h.1 k 42), .int (h.1 k 43), .int (h.1 k 44), .int (h.1 k 45), .int (h.1 k 46), .int (h.1 k 47), .int (h.1 k 48), .int (h.1 k 49), rf V 128, rf V 129, rf V 130, rf V 131, rf V 132, rf V 133, rf V 134, rf V 135, rf V 136, rf V 137, .int (h.1 k 60), rf V 138, rf V 139, rf V 140, rf V 141, rf V 142])
  | 20 => .inl (V.2.1 0, lnA k, .inl (h.1 k))
  | 21 => .inl (V.2.1 1, lnA k, .inl (h.1 k))
  | 22 => .inl (V.2.1 2, lnA k, .inr (.inl (h.2.1 k)))
  | 23 => .inl (V.2.1 3, lnA k, .inl (h.1 k))
  | 24 => .inl (V.2.1 4, 6, .inr (.inr (.inr (.inr (fun i => some (V.2.2.1 + (66 + 4 * i)))))))
  | 25 => .inl (V.2.1 5, 7, .inr (.inr (.inr (.inr (fun i => some (V.2.2.1 + (42 + 3 * i)))))))
  | 26 => .inl (V.2.1 6, 6, .inr (.inr (.inr (.inr (fun i => some (V.2.2.1 + (90 + 2 * i)))))))
  | _ => .inr (99, [])
/-- the world: the class's cells as hc has them, the reference's as hm -/
def WG (V : Ev) (hc hm : PH) (k : Nat) : va_E := if k < 102 then el V hc k else el V hm k
theorem el_rowI {V : Ev} {h : PH} {k j : Nat} (f : Nat → Int32) (hj : j ≠ k) : el V (rowI h k f) j = el V h j := by
  have e : (rowI h k f).1 j = h.1 j := va_up_ne _ _ hj
  unfold el; rw [e]; rfl
theorem el_rowL {V : Ev} {h : PH} {k j : Nat} (f : Nat → Int64) (hj : j ≠ k) : el V (rowL h k f) j = el V h j := by
  have e : (rowL h k f).2.1 j = h.2.1 j := va_up_ne _ _ hj
  unfold el; rw [e]; rfl
theorem el_wR {V : Ev} {h : PH} {k i j : Nat} (x : Option Nat) (hj : j ≠ k) : el V (wR h k i x) j = el V h j := by
  have e : (wR h k i x).2.2 j = h.2.2 j := va_up_ne _ _ hj
  unfold el; rw [e]; rfl
theorem wgc {V : Ev} {h h' o : PH} {k : Nat} {e : va_E} (hk : k < 102) (he : el V h' k = e) (hne : ∀ j, j ≠ k → el V h' j = el V h j) : va_up (WG V h o) k e = WG V h' o := by
  funext j
  by_cases hj : j = k
  · subst hj; rw [va_up_self]; unfold WG; rw [if_pos hk, he]
  · rw [va_up_ne _ _ hj]; unfold WG; rw [hne j hj]
theorem wgm {V : Ev} {h h' o : PH} {k : Nat} {e : va_E} (hk : ¬ k < 102) (he : el V h' k = e) (hne : ∀ j, j ≠ k → el V h' j = el V h j) : va_up (WG V o h) k e = WG V o h' := by
  funext j
  by_cases hj : j = k
  · subst hj; rw [va_up_self]; unfold WG; rw [if_neg hk, he]
  · rw [va_up_ne _ _ hj]; unfold WG; rw [hne j hj]
theorem wc_at {V : Ev} {h o : PH} {k : Nat} {e : va_E} (hk : k < 102) (he : el V h k = e) : WG V h o k = e := by unfold WG; rw [if_pos hk, he]
theorem wm_at {V : Ev} {h o : PH} {k : Nat} {e : va_E} (hk : ¬ k < 102) (he : el V h k = e) : WG V o h k = e := by unfold WG; rw [if_neg hk, he]
section World
variable {V : Ev} {h o : PH}
theorem g0 : WG V h o 0 = .inr (9, [rf V 1, rf V 16, .int (h.1 0 2), rf V 31, rf V 33, .int (h.1 0 5), rf V 34, rf V 38, rf V 63, rf V 65]) := wc_at (by decide) rfl
theorem u0_2 {x : Int32} : va_up (WG V h o) 0 (.inr (9, ([rf V 1, rf V 16, .int (h.1 0 2), rf V 31, rf V 33, .int (h.1 0 5), rf V 34, rf V 38, rf V 63, rf V 65] : List Value).set 2 (.int x))) = WG V (wI h 0 2 x) o := wgc (by decide) rfl (fun j hj => el_rowI _ hj)
theorem u0_5 {x : Int32} : va_up (WG V h o) 0 (.inr (9, ([rf V 1, rf V 16, .int (h.1 0 2), rf V 31, rf V 33, .int (h.1 0 5), rf V 34, rf V 38, rf V 63, rf V 65] : List Value).set 5 (.int x))) = WG V (wI h 0 5 x) o := wgc (by decide) rfl (fun j hj => el_rowI _ hj)
theorem g1 : WG V h o 1 = .inr (7, [.int (h.1 1 0), rf V 2, rf V 3, rf V 4, rf V 5, rf V 6, rf V 9, rf V 11, rf V 13, rf V 15, rq V (h.2.2 1 10)]) := wc_at (by decide) rfl
theorem u1_0 {x : Int32} : va_up (WG V h o) 1 (.inr (7, ([.int (h.1 1 0), rf V 2, rf V 3, rf V 4, rf V 5, rf V 6, rf V 9, rf V 11, rf V 13, rf V 15, rq V (h.2.2 1 10)] : List Value).set 0 (.int x))) = WG V (wI h 1 0 x) o := wgc (by decide) rfl (fun j hj => el_rowI _ hj)
theorem u1_10 {x : Option Nat} : va_up (WG V h o) 1 (.inr (7, ([.int (h.1 1 0), rf V 2, rf V 3, rf V 4, rf V 5, rf V 6, rf V 9, rf V 11, rf V 13, rf V 15, rq V (h.2.2 1 10)] : List Value).set 10 (rq V x))) = WG V (wR h 1 10 x) o := wgc (by decide) rfl (fun j hj => el_wR _ hj)
theorem g2 : WG V h o 2 = .inl (V.2.1 1, 6, .inl (h.1 2)) := wc_at (by decide) rfl
theorem u2 {i : Nat} {x : Int32} : va_up (WG V h o) 2 (.inl (V.2.1 1, 6, .inl (upd (h.1 2) i x))) = WG V (wI h 2 i x) o := wgc (by decide) rfl (fun j hj => el_rowI _ hj)
theorem uf2 {f : Nat → Int32} : va_up (WG V h o) 2 (.inl (V.2.1 1, 6, .inl f)) = WG V (rowI h 2 f) o := wgc (by decide) rfl (fun j hj => el_rowI _ hj)
theorem g3 : WG V h o 3 = .inl (V.2.1 1, 6, .inl (h.1 3)) := wc_at (by decide) rfl
theorem u3 {i : Nat} {x : Int32} : va_up (WG V h o) 3 (.inl (V.2.1 1, 6, .inl (upd (h.1 3) i x))) = WG V (wI h 3 i x) o := wgc (by decide) rfl (fun j hj => el_rowI _ hj)
theorem uf3 {f : Nat → Int32} : va_up (WG V h o) 3 (.inl (V.2.1 1, 6, .inl f)) = WG V (rowI h 3 f) o := wgc (by decide) rfl (fun j hj => el_rowI _ hj)
theorem g4 : WG V h o 4 = .inl (V.2.1 1, 24, .inl (h.1 4)) := wc_at (by decide) rfl
theorem u4 {i : Nat} {x : Int32} : va_up (WG V h o) 4 (.inl (V.2.1 1, 24, .inl (upd (h.1 4) i x))) = WG V (wI h 4 i x) o := wgc (by decide) rfl (fun j hj => el_rowI _ hj)
theorem uf4 {f : Nat → Int32} : va_up (WG V h o) 4 (.inl (V.2.1 1, 24, .inl f)) = WG V (rowI h 4 f) o := wgc (by decide) rfl (fun j hj => el_rowI _ hj)
theorem g5 : WG V h o 5 = .inl (V.2.1 1, 606, .inl (h.1 5)) := wc_at (by decide) rfl
theorem u5 {i : Nat} {x : Int32} : va_up (WG V h o) 5 (.inl (V.2.1 1, 606, .inl (upd (h.1 5) i x))) = WG V (wI h 5 i x) o := wgc (by decide) rfl (fun j hj => el_rowI _ hj)
theorem uf5 {f : Nat → Int32} : va_up (WG V h o) 5 (.inl (V.2.1 1, 606, .inl f)) = WG V (rowI h 5 f) o := wgc (by decide) rfl (fun j hj => el_rowI _ hj)
theorem g6 : WG V h o 6 = .inr (3, [.int (h.1 6 0), rf V 7, rf V 8]) := wc_at (by decide) rfl
theorem u6_0 {x : Int32} : va_up (WG V h o) 6 (.inr (3, ([.int (h.1 6 0), rf V 7, rf V 8] : List Value).set 0 (.int x))) = WG V (wI h 6 0 x) o := wgc (by decide) rfl (fun j hj => el_rowI _ hj)
theorem g7 : WG V h o 7 = .inl (V.2.1 1, 6, .inl (h.1 7)) := wc_at (by decide) rfl
theorem u7 {i : Nat} {x : Int32} : va_up (WG V h o) 7 (.inl (V.2.1 1, 6, .inl (upd (h.1 7) i x))) = WG V (wI h 7 i x) o := wgc (by decide) rfl (fun j hj => el_rowI _ hj)
theorem uf7 {f : Nat → Int32} : va_up (WG V h o) 7 (.inl (V.2.1 1, 6, .inl f)) = WG V (rowI h 7 f) o := wgc (by decide) rfl (fun j hj => el_rowI _ hj)
theorem g8 : WG V h o 8 = .inl (V.2.1 3, 6, .inl (h.1 8)) := wc_at (by decide) rfl
theorem u8 {i : Nat} {x : Int32} : va_up (WG V h o) 8 (.inl (V.2.1 3, 6, .inl (upd (h.1 8) i x))) = WG V (wI h 8 i x) o := wgc (by decide) rfl (fun j hj => el_rowI _ hj)
theorem uf8 {f : Nat → Int32} : va_up (WG V h o) 8 (.inl (V.2.1 3, 6, .inl f)) = WG V (rowI h 8 f) o := wgc (by decide) rfl (fun j hj => el_rowI _ hj)
theorem g9 : WG V h o 9 = .inr (6, [.int (h.1 9 0), rf V 10, .int (h.1 9 2)]) := wc_at (by decide) rfl
theorem u9_0 {x : Int32} : va_up (WG V h o) 9 (.inr (6, ([.int (h.1 9 0), rf V 10, .int (h.1 9 2)] : List Value).set 0 (.int x))) = WG V (wI h 9 0 x) o := wgc (by decide) rfl (fun j hj => el_rowI _ hj)
theorem u9_2 {x : Int32} : va_up (WG V h o) 9 (.inr (6, ([.int (h.1 9 0), rf V 10, .int (h.1 9 2)] : List Value).set 2 (.int x))) = WG V (wI h 9 2 x) o := wgc (by decide) rfl (fun j hj => el_rowI _ hj)
theorem g10 : WG V h o 10 = .inl (V.2.1 1, 15, .inl (h.1 10)) := wc_at (by decide) rfl
theorem u10 {i : Nat} {x : Int32} : va_up (WG V h o) 10 (.inl (V.2.1 1, 15, .inl (upd (h.1 10) i x))) = WG V (wI h 10 i x) o := wgc (by decide) rfl (fun j hj => el_rowI _ hj)
theorem uf10 {f : Nat → Int32} : va_up (WG V h o) 10 (.inl (V.2.1 1, 15, .inl f)) = WG V (rowI h 10 f) o := wgc (by decide) rfl (fun j hj => el_rowI _ hj)
theorem g11 : WG V h o 11 = .inr (6, [.int (h.1 11 0), rf V 12, .int (h.1 11 2)]) := wc_at (by decide) rfl
theorem u11_0 {x : Int32} : va_up (WG V h o) 11 (.inr (6, ([.int (h.1 11 0), rf V 12, .int (h.1 11 2)] : List Value).set 0 (.int x))) = WG V (wI h 11 0 x) o := wgc (by decide) rfl (fun j hj => el_rowI _ hj)
theorem u11_2 {x : Int32} : va_up (WG V h o) 11 (.inr (6, ([.int (h.1 11 0), rf V 12, .int (h.1 11 2)] : List Value).set 2 (.int x))) = WG V (wI h 11 2 x) o := wgc (by decide) rfl (fun j hj => el_rowI _ hj)
theorem g12 : WG V h o 12 = .inl (V.2.1 1, 30, .inl (h.1 12)) := wc_at (by decide) rfl
theorem u12 {i : Nat} {x : Int32} : va_up (WG V h o) 12 (.inl (V.2.1 1, 30, .inl (upd (h.1 12) i x))) = WG V (wI h 12 i x) o := wgc (by decide) rfl (fun j hj => el_rowI _ hj)
theorem uf12 {f : Nat → Int32} : va_up (WG V h o) 12 (.inl (V.2.1 1, 30, .inl f)) = WG V (rowI h 12 f) o := wgc (by decide) rfl (fun j hj => el_rowI _ hj)
theorem g13 : WG V h o 13 = .inr (6, [.int (h.1 13 0), rf V 14, .int (h.1 13 2)]) := wc_at (by decide) rfl
theorem u13_0 {x : Int32} : va_up (WG V h o) 13 (.inr (6, ([.int (h.1 13 0), rf V 14, .int (h.1 13 2)] : List Value).set 0 (.int x))) = WG V (wI h 13 0 x) o := wgc (by decide) rfl (fun j hj => el_rowI _ hj)
theorem u13_2 {x : Int32} : va_up (WG V h o) 13 (.inr (6, ([.int (h.1 13 0), rf V 14, .int (h.1 13 2)] : List Value).set 2 (.int x))) = WG V (wI h 13 2 x) o := wgc (by decide) rfl (fun j hj => el_rowI _ hj)
theorem g14 : WG V h o 14 = .inl (V.2.1 1, 24, .inl (h.1 14)) := wc_at (by decide) rfl
theorem u14 {i : Nat} {x : Int32} : va_up (WG V h o) 14 (.inl (V.2.1 1, 24, .inl (upd (h.1 14) i x))) = WG V (wI h 14 i x) o := wgc (by decide) rfl (fun j hj => el_rowI _ hj)
theorem uf14 {f : Nat → Int32} : va_up (WG V h o) 14 (.inl (V.2.1 1, 24, .inl f)) = WG V (rowI h 14 f) o := wgc (by decide) rfl (fun j hj => el_rowI _ hj)
theorem g15 : WG V h o 15 = .inl (V.2.1 1, 6, .inl (h.1 15)) := wc_at (by decide) rfl
theorem u15 {i : Nat} {x : Int32} : va_up (WG V h o) 15 (.inl (V.2.1 1, 6, .inl (upd (h.1 15) i x))) = WG V (wI h 15 i x) o := wgc (by decide) rfl (fun j hj => el_rowI _ hj)
theorem uf15 {f : Nat → Int32} : va_up (WG V h o) 15 (.inl (V.2.1 1, 6, .inl f)) = WG V (rowI h 15 f) o := wgc (by decide) rfl (fun j hj => el_rowI _ hj)
theorem g16 : WG V h o 16 = .inr (7, [.int (h.1 16 0), rf V 17, rf V 18, rf V 19, rf V 20, rf V 21, rf V 24, rf V 26, rf V 28, rf V 30, rq V (h.2.2 16 10)]) := wc_at (by decide) rfl
theorem u16_0 {x : Int32} : va_up (WG V h o) 16 (.inr (7, ([.int (h.1 16 0), rf V 17, rf V 18, rf V 19, rf V 20, rf V 21, rf V 24, rf V 26, rf V 28, rf V 30, rq V (h.2.2 16 10)] : List Value).set 0 (.int x))) = WG V (wI h 16 0 x) o := wgc (by decide) rfl (fun j hj => el_rowI _ hj)
theorem u16_10 {x : Option Nat} : va_up (WG V h o) 16 (.inr (7, ([.int (h.1 16 0), rf V 17, rf V 18, rf V 19, rf V 20, rf V 21, rf V 24, rf V 26, rf V 28, rf V 30, rq V (h.2.2 16 10)] : List Value).set 10 (rq V x))) = WG V (wR h 16 10 x) o := wgc (by decide) rfl (fun j hj => el_wR _ hj)
theorem g17 : WG V h o 17 = .inl (V.2.1 1, 6, .inl (h.1 17)) := wc_at (by decide) rfl
theorem u17 {i : Nat} {x : Int32} : va_up (WG V h o) 17 (.inl (V.2.1 1, 6, .inl (upd (h.1 17) i x))) = WG V (wI h 17 i x) o := wgc (by decide) rfl (fun j hj => el_rowI _ hj)
theorem uf17 {f : Nat → Int32} : va_up (WG V h o) 17 (.inl (V.2.1 1, 6, .inl f)) = WG V (rowI h 17 f) o := wgc (by decide) rfl (fun j hj => el_rowI _ hj)
theorem g18 : WG V h o 18 = .inl (V.2.1 1, 6, .inl (h.1 18)) := wc_at (by decide) rfl
theorem u18 {i : Nat} {x : Int32} : va_up (WG V h o) 18 (.inl (V.2.1 1, 6, .inl (upd (h.1 18) i x))) = WG V (wI h 18 i x) o := wgc (by decide) rfl (fun j hj => el_rowI _ hj)
theorem uf18 {f : Nat → Int32} : va_up (WG V h o) 18 (.inl (V.2.1 1, 6, .inl f)) = WG V (rowI h 18 f) o := wgc (by decide) rfl (fun j hj => el_rowI _ hj)
theorem g19 : WG V h o 19 = .inl (V.2.1 1, 24, .inl (h.1 19)) := wc_at (by decide) rfl
theorem u19 {i : Nat} {x : Int32} : va_up (WG V h o) 19 (.inl (V.2.1 1, 24, .inl (upd (h.1 19) i x))) = WG V (wI h 19 i x) o := wgc (by decide) rfl (fun j hj => el_rowI _ hj)
theorem uf19 {f : Nat → Int32} : va_up (WG V h o) 19 (.inl (V.2.1 1, 24, .inl f)) = WG V (rowI h 19 f) o := wgc (by decide) rfl (fun j hj => el_rowI _ hj)
theorem g20 : WG V h o 20 = .inl (V.2.1 1, 606, .inl (h.1 20)) := wc_at (by decide) rfl
theorem u20 {i : Nat} {x : Int32} : va_up (WG V h o) 20 (.inl (V.2.1 1, 606, .inl (upd (h.1 20) i x))) = WG V (wI h 20 i x) o := wgc (by decide) rfl (fun j hj => el_rowI _ hj)
theorem uf20 {f : Nat → Int32} : va_up (WG V h o) 20 (.inl (V.2.1 1, 606, .inl f)) = WG V (rowI h 20 f) o := wgc (by decide) rfl (fun j hj => el_rowI _ hj)
theorem g21 : WG V h o 21 = .inr (3, [.int (h.1 21 0), rf V 22, rf V 23]) := wc_at (by decide) rfl
theorem u21_0 {x : Int32} : va_up (WG V h o) 21 (.inr (3, ([.int (h.1 21 0), rf V 22, rf V 23] : List Value).set 0 (.int x))) = WG V (wI h 21 0 x) o := wgc (by decide) rfl (fun j hj => el_rowI _ hj)
theorem g22 : WG V h o 22 = .inl (V.2.1 1, 6, .inl (h.1 22)) := wc_at (by decide) rfl
theorem u22 {i : Nat} {x : Int32} : va_up (WG V h o) 22 (.inl (V.2.1 1, 6, .inl (upd (h.1 22) i x))) = WG V (wI h 22 i x) o := wgc (by decide) rfl (fun j hj => el_rowI _ hj)
theorem uf22 {f : Nat → Int32} : va_up (WG V h o) 22 (.inl (V.2.1 1, 6, .inl f)) = WG V (rowI h 22 f) o := wgc (by decide) rfl (fun j hj => el_rowI _ hj)
theorem g23 : WG V h o 23 = .inl (V.2.1 3, 6, .inl (h.1 23)) := wc_at (by decide) rfl
theorem u23 {i : Nat} {x : Int32} : va_up (WG V h o) 23 (.inl (V.2.1 3, 6, .inl (upd (h.1 23) i x))) = WG V (wI h 23 i x) o := wgc (by decide) rfl (fun j hj => el_rowI _ hj)
theorem uf23 {f : Nat → Int32} : va_up (WG V h o) 23 (.inl (V.2.1 3, 6, .inl f)) = WG V (rowI h 23 f) o := wgc (by decide) rfl (fun j hj => el_rowI _ hj)
theorem g24 : WG V h o 24 = .inr (6, [.int (h.1 24 0), rf V 25, .int (h.1 24 2)]) := wc_at (by decide) rfl
theorem u24_0 {x : Int32} : va_up (WG V h o) 24 (.inr (6, ([.int (h.1 24 0), rf V 25, .int (h.1 24 2)] : List Value).set 0 (.int x))) = WG V (wI h 24 0 x) o := wgc (by decide) rfl (fun j hj => el_rowI _ hj)
theorem u24_2 {x : Int32} : va_up (WG V h o) 24 (.inr (6, ([.int (h.1 24 0), rf V 25, .int (h.1 24 2)] : List Value).set 2 (.int x))) = WG V (wI h 24 2 x) o := wgc (by decide) rfl (fun j hj => el_rowI _ hj)
theorem g25 : WG V h o 25 = .inl (V.2.1 1, 15, .inl (h.1 25)) := wc_at (by decide) rfl
theorem u25 {i : Nat} {x : Int32} : va_up (WG V h o) 25 (.inl (V.2.1 1, 15, .inl (upd (h.1 25) i x))) = WG V (wI h 25 i x) o := wgc (by decide) rfl (fun j hj => el_rowI _ hj)
theorem uf25 {f : Nat → Int32} : va_up (WG V h o) 25 (.inl (V.2.1 1, 15, .inl f)) = WG V (rowI h 25 f) o := wgc (by decide) rfl (fun j hj => el_rowI _ hj)
theorem g26 : WG V h o 26 = .inr (6, [.int (h.1 26 0), rf V 27, .int (h.1 26 2)]) := wc_at (by decide) rfl
theorem u26_0 {x : Int32} : va_up (WG V h o) 26 (.inr (6, ([.int (h.1 26 0), rf V 27, .int (h.1 26 2)] : List Value).set 0 (.int x))) = WG V (wI h 26 0 x) o := wgc (by decide) rfl (fun j hj => el_rowI _ hj)
theorem u26_2 {x : Int32} : va_up (WG V h o) 26 (.inr (6, ([.int (h.1 26 0), rf V 27, .int (h.1 26 2)] : List Value).set 2 (.int x))) = WG V (wI h 26 2 x) o := wgc (by decide) rfl (fun j hj => el_rowI _ hj)
theorem g27 : WG V h o 27 = .inl (V.2.1 1, 30, .inl (h.1 27)) := wc_at (by decide) rfl
theorem u27 {i : Nat} {x : Int32} : va_up (WG V h o) 27 (.inl (V.2.1 1, 30, .inl (upd (h.1 27) i x))) = WG V (wI h 27 i x) o := wgc (by decide) rfl (fun j hj => el_rowI _ hj)
theorem uf27 {f : Nat → Int32} : va_up (WG V h o) 27 (.inl (V.2.1 1, 30, .inl f)) = WG V (rowI h 27 f) o := wgc (by decide) rfl (fun j hj => el_rowI _ hj)
theorem g28 : WG V h o 28 = .inr (6, [.int (h.1 28 0), rf V 29, .int (h.1 28 2)]) := wc_at (by decide) rfl
theorem u28_0 {x : Int32} : va_up (WG V h o) 28 (.inr (6, ([.int (h.1 28 0), rf V 29, .int (h.1 28 2)] : List Value).set 0 (.int x))) = WG V (wI h 28 0 x) o := wgc (by decide) rfl (fun j hj => el_rowI _ hj)
theorem u28_2 {x : Int32} : va_up (WG V h o) 28 (.inr (6, ([.int (h.1 28 0), rf V 29, .int (h.1 28 2)] : List Value).set 2 (.int x))) = WG V (wI h 28 2 x) o := wgc (by decide) rfl (fun j hj => el_rowI _ hj)
theorem g29 : WG V h o 29 = .inl (V.2.1 1, 24, .inl (h.1 29)) := wc_at (by decide) rfl
theorem u29 {i : Nat} {x : Int32} : va_up (WG V h o) 29 (.inl (V.2.1 1, 24, .inl (upd (h.1 29) i x))) = WG V (wI h 29 i x) o := wgc (by decide) rfl (fun j hj => el_rowI _ hj)
theorem uf29 {f : Nat → Int32} : va_up (WG V h o) 29 (.inl (V.2.1 1, 24, .inl f)) = WG V (rowI h 29 f) o := wgc (by decide) rfl (fun j hj => el_rowI _ hj)
theorem g30 : WG V h o 30 = .inl (V.2.1 1, 6, .inl (h.1 30)) := wc_at (by decide) rfl
theorem u30 {i : Nat} {x : Int32} : va_up (WG V h o) 30 (.inl (V.2.1 1, 6, .inl (upd (h.1 30) i x))) = WG V (wI h 30 i x) o := wgc (by decide) rfl (fun j hj => el_rowI _ hj)
theorem uf30 {f : Nat → Int32} : va_up (WG V h o) 30 (.inl (V.2.1 1, 6, .inl f)) = WG V (rowI h 30 f) o := wgc (by decide) rfl (fun j hj => el_rowI _ hj)
theorem g31 : WG V h o 31 = .inr (5, [rf V 32, .int (h.1 31 1), .int (h.1 31 2), .int (h.1 31 3), .int (h.1 31 4), rq V (h.2.2 31 5)]) := wc_at (by decide) rfl
theorem u31_1 {x : Int32} : va_up (WG V h o) 31 (.inr (5, ([rf V 32, .int (h.1 31 1), .int (h.1 31 2), .int (h.1 31 3), .int (h.1 31 4), rq V (h.2.2 31 5)] : List Value).set 1 (.int x))) = WG V (wI h 31 1 x) o := wgc (by decide) rfl (fun j hj => el_rowI _ hj)
theorem u31_2 {x : Int32} : va_up (WG V h o) 31 (.inr (5, ([rf V 32, .int (h.1 31 1), .int (h.1 31 2), .int (h.1 31 3), .int (h.1 31 4), rq V (h.2.2 31 5)] : List Value).set 2 (.int x))) = WG V (wI h 31 2 x) o := wgc (by decide) rfl (fun j hj => el_rowI _ hj)
theorem u31_3 {x : Int32} : va_up (WG V h o) 31 (.inr (5, ([rf V 32, .int (h.1 31 1), .int (h.1 31 2), .int (h.1 31 3), .int (h.1 31 4), rq V (h.2.2 31 5)] : List Value).set 3 (.int x))) = WG V (wI h 31 3 x) o := wgc (by decide) rfl (fun j hj => el_rowI _ hj)
theorem u31_4 {x : Int32} : va_up (WG V h o) 31 (.inr (5, ([rf V 32, .int (h.1 31 1), .int (h.1 31 2), .int (h.1 31 3), .int (h.1 31 4), rq V (h.2.2 31 5)] : List Value).set 4 (.int x))) = WG V (wI h 31 4 x) o := wgc (by decide) rfl (fun j hj => el_rowI _ hj)
theorem u31_5 {x : Option Nat} : va_up (WG V h o) 31 (.inr (5, ([rf V 32, .int (h.1 31 1), .int (h.1 31 2), .int (h.1 31 3), .int (h.1 31 4), rq V (h.2.2 31 5)] : List Value).set 5 (rq V x))) = WG V (wR h 31 5 x) o := wgc (by decide) rfl (fun j hj => el_wR _ hj)
theorem g32 : WG V h o 32 = .inl (V.2.1 0, 100, .inl (h.1 32)) := wc_at (by decide) rfl
theorem u32 {i : Nat} {x : Int32} : va_up (WG V h o) 32 (.inl (V.2.1 0, 100, .inl (upd (h.1 32) i x))) = WG V (wI h 32 i x) o := wgc (by decide) rfl (fun j hj => el_rowI _ hj)
theorem uf32 {f : Nat → Int32} : va_up (WG V h o) 32 (.inl (V.2.1 0, 100, .inl f)) = WG V (rowI h 32 f) o := wgc (by decide) rfl (fun j hj => el_rowI _ hj)
theorem g33 : WG V h o 33 = .inl (V.2.1 4, 6, .inr (.inr (.inr (.inr (fun i => some (V.2.2.1 + (66 + 4 * i))))))) := wc_at (by decide) rfl
theorem g34 : WG V h o 34 = .inr (1, [rf V 1, rf V 35, .int (h.1 34 2), .int (h.1 34 3)]) := wc_at (by decide) rfl
theorem u34_2 {x : Int32} : va_up (WG V h o) 34 (.inr (1, ([rf V 1, rf V 35, .int (h.1 34 2), .int (h.1 34 3)] : List Value).set 2 (.int x))) = WG V (wI h 34 2 x) o := wgc (by decide) rfl (fun j hj => el_rowI _ hj)
theorem u34_3 {x : Int32} : va_up (WG V h o) 34 (.inr (1, ([rf V 1, rf V 35, .int (h.1 34 2), .int (h.1 34 3)] : List Value).set 3 (.int x))) = WG V (wI h 34 3 x) o := wgc (by decide) rfl (fun j hj => el_rowI _ hj)
theorem g35 : WG V h o 35 = .inr (3, [.int (h.1 35 0), rf V 36, rf V 37]) := wc_at (by decide) rfl
theorem u35_0 {x : Int32} : va_up (WG V h o) 35 (.inr (3, ([.int (h.1 35 0), rf V 36, rf V 37] : List Value).set 0 (.int x))) = WG V (wI h 35 0 x) o := wgc (by decide) rfl (fun j hj => el_rowI _ hj)
theorem g36 : WG V h o 36 = .inl (V.2.1 1, 6, .inl (h.1 36)) := wc_at (by decide) rfl
theorem u36 {i : Nat} {x : Int32} : va_up (WG V h o) 36 (.inl (V.2.1 1, 6, .inl (upd (h.1 36) i x))) = WG V (wI h 36 i x) o := wgc (by decide) rfl (fun j hj => el_rowI _ hj)
theorem uf36 {f : Nat → Int32} : va_up (WG V h o) 36 (.inl (V.2.1 1, 6, .inl f)) = WG V (rowI h 36 f) o := wgc (by decide) rfl (fun j hj => el_rowI _ hj)
theorem g37 : WG V h o 37 = .inl (V.2.1 3, 6, .inl (h.1 37)) := wc_at (by decide) rfl
theorem u37 {i : Nat} {x : Int32} : va_up (WG V h o) 37 (.inl (V.2.1 3, 6, .inl (upd (h.1 37) i x))) = WG V (wI h 37 i x) o := wgc (by decide) rfl (fun j hj => el_rowI _ hj)
theorem uf37 {f : Nat → Int32} : va_up (WG V h o) 37 (.inl (V.2.1 3, 6, .inl f)) = WG V (rowI h 37 f) o := wgc (by decide) rfl (fun j hj => el_rowI _ hj)
theorem g38 : WG V h o 38 = .inr (4, [rf V 1, rf V 39, rf V 40, rf V 41, .int (h.1 38 4)]) := wc_at (by decide) rfl
theorem u38_4 {x : Int32} : va_up (WG V h o) 38 (.inr (4, ([rf V 1, rf V 39, rf V 40, rf V 41, .int (h.1 38 4)] : List Value).set 4 (.int x))) = WG V (wI h 38 4 x) o := wgc (by decide) rfl (fun j hj => el_rowI _ hj)
theorem g39 : WG V h o 39 = .inl (V.2.1 5, 7, .inr (.inr (.inr (.inr (fun i => some (V.2.2.1 + (42 + 3 * i))))))) := wc_at (by decide) rfl
theorem g40 : WG V h o 40 = .inl (V.2.1 1, 6, .inl (h.1 40)) := wc_at (by decide) rfl
theorem u40 {i : Nat} {x : Int32} : va_up (WG V h o) 40 (.inl (V.2.1 1, 6, .inl (upd (h.1 40) i x))) = WG V (wI h 40 i x) o := wgc (by decide) rfl (fun j hj => el_rowI _ hj)
theorem uf40 {f : Nat → Int32} : va_up (WG V h o) 40 (.inl (V.2.1 1, 6, .inl f)) = WG V (rowI h 40 f) o := wgc (by decide) rfl (fun j hj => el_rowI _ hj)
theorem g41 : WG V h o 41 = .inl (V.2.1 1, 6, .inl (h.1 41)) := wc_at (by decide) rfl
theorem u41 {i : Nat} {x : Int32} : va_up (WG V h o) 41 (.inl (V.2.1 1, 6, .inl (upd (h.1 41) i x))) = WG V (wI h 41 i x) o := wgc (by decide) rfl (fun j hj => el_rowI _ hj)
theorem uf41 {f : Nat → Int32} : va_up (WG V h o) 41 (.inl (V.2.1 1, 6, .inl f)) = WG V (rowI h 41 f) o := wgc (by decide) rfl (fun j hj => el_rowI _ hj)
theorem g42 : WG V h o 42 = .inr (3, [.int (h.1 42 0), rf V 43, rf V 44]) := wc_at (by decide) rfl
theorem u42_0 {x : Int32} : va_up (WG V h o) 42 (.inr (3, ([.int (h.1 42 0), rf V 43, rf V 44] : List Value).set 0 (.int x))) = WG V (wI h 42 0 x) o := wgc (by decide) rfl (fun j hj => el_rowI _ hj)
theorem g43 : WG V h o 43 = .inl (V.2.1 1, 6, .inl (h.1 43)) := wc_at (by decide) rfl
theorem u43 {i : Nat} {x : Int32} : va_up (WG V h o) 43 (.inl (V.2.1 1, 6, .inl (upd (h.1 43) i x))) = WG V (wI h 43 i x) o := wgc (by decide) rfl (fun j hj => el_rowI _ hj)
theorem uf43 {f : Nat → Int32} : va_up (WG V h o) 43 (.inl (V.2.1 1, 6, .inl f)) = WG V (rowI h 43 f) o := wgc (by decide) rfl (fun j hj => el_rowI _ hj)
theorem g44 : WG V h o 44 = .inl (V.2.1 3, 6, .inl (h.1 44)) := wc_at (by decide) rfl
theorem u44 {i : Nat} {x : Int32} : va_up (WG V h o) 44 (.inl (V.2.1 3, 6, .inl (upd (h.1 44) i x))) = WG V (wI h 44 i x) o := wgc (by decide) rfl (fun j hj => el_rowI _ hj)
theorem uf44 {f : Nat → Int32} : va_up (WG V h o) 44 (.inl (V.2.1 3, 6, .inl f)) = WG V (rowI h 44 f) o := wgc (by decide) rfl (fun j hj => el_rowI _ hj)
theorem g45 : WG V h o 45 = .inr (3, [.int (h.1 45 0), rf V 46, rf V 47]) := wc_at (by decide) rfl
theorem u45_0 {x : Int32} : va_up (WG V h o) 45 (.inr (3, ([.int (h.1 45 0), rf V 46, rf V 47] : List Value).set 0 (.int x))) = WG V (wI h 45 0 x) o := wgc (by decide) rfl (fun j hj => el_rowI _ hj)
theorem g46 : WG V h o 46 = .inl (V.2.1 1, 6, .inl (h.1 46)) := wc_at (by decide) rfl
theorem u46 {i : Nat} {x : Int32} : va_up (WG V h o) 46 (.inl (V.2.1 1, 6, .inl (upd (h.1 46) i x))) = WG V (wI h 46 i x) o := wgc (by decide) rfl (fun j hj => el_rowI _ hj)
theorem uf46 {f : Nat → Int32} : va_up (WG V h o) 46 (.inl (V.2.1 1, 6, .inl f)) = WG V (rowI h 46 f) o := wgc (by decide) rfl (fun j hj => el_rowI _ hj)
theorem g47 : WG V h o 47 = .inl (V.2.1 3, 6, .inl (h.1 47)) := wc_at (by decide) rfl
theorem u47 {i : Nat} {x : Int32} : va_up (WG V h o) 47 (.inl (V.2.1 3, 6, .inl (upd (h.1 47) i x))) = WG V (wI h 47 i x) o := wgc (by decide) rfl (fun j hj => el_rowI _ hj)
theorem uf47 {f : Nat → Int32} : va_up (WG V h o) 47 (.inl (V.2.1 3, 6, .inl f)) = WG V (rowI h 47 f) o := wgc (by decide) rfl (fun j hj => el_rowI _ hj)
theorem g48 : WG V h o 48 = .inr (3, [.int (h.1 48 0), rf V 49, rf V 50]) := wc_at (by decide) rfl
theorem u48_0 {x : Int32} : va_up (WG V h o) 48 (.inr (3, ([.int (h.1 48 0), rf V 49, rf V 50] : List Value).set 0 (.int x))) = WG V (wI h 48 0 x) o := wgc (by decide) rfl (fun j hj => el_rowI _ hj)
theorem g49 : WG V h o 49 = .inl (V.2.1 1, 6, .inl (h.1 49)) := wc_at (by decide) rfl
theorem u49 {i : Nat} {x : Int32} : va_up (WG V h o) 49 (.inl (V.2.1 1, 6, .inl (upd (h.1 49) i x))) = WG V (wI h 49 i x) o := wgc (by decide) rfl (fun j hj => el_rowI _ hj)
theorem uf49 {f : Nat → Int32} : va_up (WG V h o) 49 (.inl (V.2.1 1, 6, .inl f)) = WG V (rowI h 49 f) o := wgc (by decide) rfl (fun j hj => el_rowI _ hj)
theorem g50 : WG V h o 50 = .inl (V.2.1 3, 6, .inl (h.1 50)) := wc_at (by decide) rfl
theorem u50 {i : Nat} {x : Int32} : va_up (WG V h o) 50 (.inl (V.2.1 3, 6, .inl (upd (h.1 50) i x))) = WG V (wI h 50 i x) o := wgc (by decide) rfl (fun j hj => el_rowI _ hj)
theorem uf50 {f : Nat → Int32} : va_up (WG V h o) 50 (.inl (V.2.1 3, 6, .inl f)) = WG V (rowI h 50 f) o := wgc (by decide) rfl (fun j hj => el_rowI _ hj)
theorem g51 : WG V h o 51 = .inr (3, [.int (h.1 51 0), rf V 52, rf V 53]) := wc_at (by decide) rfl
theorem u51_0 {x : Int32} : va_up (WG V h o) 51 (.inr (3, ([.int (h.1 51 0), rf V 52, rf V 53] : List Value).set 0 (.int x))) = WG V (wI h 51 0 x) o := wgc (by decide) rfl (fun j hj => el_rowI _ hj)
theorem g52 : WG V h o 52 = .inl (V.2.1 1, 6, .inl (h.1 52)) := wc_at (by decide) rfl
theorem u52 {i : Nat} {x : Int32} : va_up (WG V h o) 52 (.inl (V.2.1 1, 6, .inl (upd (h.1 52) i x))) = WG V (wI h 52 i x) o := wgc (by decide) rfl (fun j hj => el_rowI _ hj)
theorem uf52 {f : Nat → Int32} : va_up (WG V h o) 52 (.inl (V.2.1 1, 6, .inl f)) = WG V (rowI h 52 f) o := wgc (by decide) rfl (fun j hj => el_rowI _ hj)
theorem g53 : WG V h o 53 = .inl (V.2.1 3, 6, .inl (h.1 53)) := wc_at (by decide) rfl
theorem u53 {i : Nat} {x : Int32} : va_up (WG V h o) 53 (.inl (V.2.1 3, 6, .inl (upd (h.1 53) i x))) = WG V (wI h 53 i x) o := wgc (by decide) rfl (fun j hj => el_rowI _ hj)
theorem uf53 {f : Nat → Int32} : va_up (WG V h o) 53 (.inl (V.2.1 3, 6, .inl f)) = WG V (rowI h 53 f) o := wgc (by decide) rfl (fun j hj => el_rowI _ hj)
theorem g54 : WG V h o 54 = .inr (3, [.int (h.1 54 0), rf V 55, rf V 56]) := wc_at (by decide) rfl
theorem u54_0 {x : Int32} : va_up (WG V h o) 54 (.inr (3, ([.int (h.1 54 0), rf V 55, rf V 56] : List Value).set 0 (.int x))) = WG V (wI h 54 0 x) o := wgc (by decide) rfl (fun j hj => el_rowI _ hj)
theorem g55 : WG V h o 55 = .inl (V.2.1 1, 6, .inl (h.1 55)) := wc_at (by decide) rfl
theorem u55 {i : Nat} {x : Int32} : va_up (WG V h o) 55 (.inl (V.2.1 1, 6, .inl (upd (h.1 55) i x))) = WG V (wI h 55 i x) o := wgc (by decide) rfl (fun j hj => el_rowI _ hj)
theorem uf55 {f : Nat → Int32} : va_up (WG V h o) 55 (.inl (V.2.1 1, 6, .inl f)) = WG V (rowI h 55 f) o := wgc (by decide) rfl (fun j hj => el_rowI _ hj)
theorem g56 : WG V h o 56 = .inl (V.2.1 3, 6, .inl (h.1 56)) := wc_at (by decide) rfl
theorem u56 {i : Nat} {x : Int32} : va_up (WG V h o) 56 (.inl (V.2.1 3, 6, .inl (upd (h.1 56) i x))) = WG V (wI h 56 i x) o := wgc (by decide) rfl (fun j hj => el_rowI _ hj)
theorem uf56 {f : Nat → Int32} : va_up (WG V h o) 56 (.inl (V.2.1 3, 6, .inl f)) = WG V (rowI h 56 f) o := wgc (by decide) rfl (fun j hj => el_rowI _ hj)
theorem g57 : WG V h o 57 = .inr (3, [.int (h.1 57 0), rf V 58, rf V 59]) := wc_at (by decide) rfl
theorem u57_0 {x : Int32} : va_up (WG V h o) 57 (.inr (3, ([.int (h.1 57 0), rf V 58, rf V 59] : List Value).set 0 (.int x))) = WG V (wI h 57 0 x) o := wgc (by decide) rfl (fun j hj => el_rowI _ hj)
theorem g58 : WG V h o 58 = .inl (V.2.1 1, 6, .inl (h.1 58)) := wc_at (by decide) rfl
theorem u58 {i : Nat} {x : Int32} : va_up (WG V h o) 58 (.inl (V.2.1 1, 6, .inl (upd (h.1 58) i x))) = WG V (wI h 58 i x) o := wgc (by decide) rfl (fun j hj => el_rowI _ hj)
theorem uf58 {f : Nat → Int32} : va_up (WG V h o) 58 (.inl (V.2.1 1, 6, .inl f)) = WG V (rowI h 58 f) o := wgc (by decide) rfl (fun j hj => el_rowI _ hj)
theorem g59 : WG V h o 59 = .inl (V.2.1 3, 6, .inl (h.1 59)) := wc_at (by decide) rfl
theorem u59 {i : Nat} {x : Int32} : va_up (WG V h o) 59 (.inl (V.2.1 3, 6, .inl (upd (h.1 59) i x))) = WG V (wI h 59 i x) o := wgc (by decide) rfl (fun j hj => el_rowI _ hj)
theorem uf59 {f : Nat → Int32} : va_up (WG V h o) 59 (.inl (V.2.1 3, 6, .inl f)) = WG V (rowI h 59 f) o := wgc (by decide) rfl (fun j hj => el_rowI _ hj)
theorem g60 : WG V h o 60 = .inr (3, [.int (h.1 60 0), rf V 61, rf V 62]) := wc_at (by decide) rfl
theorem u60_0 {x : Int32} : va_up (WG V h o) 60 (.inr (3, ([.int (h.1 60 0), rf V 61, rf V 62] : List Value).set 0 (.int x))) = WG V (wI h 60 0 x) o := wgc (by decide) rfl (fun j hj => el_rowI _ hj)
theorem g61 : WG V h o 61 = .inl (V.2.1 1, 6, .inl (h.1 61)) := wc_at (by decide) rfl
theorem u61 {i : Nat} {x : Int32} : va_up (WG V h o) 61 (.inl (V.2.1 1, 6, .inl (upd (h.1 61) i x))) = WG V (wI h 61 i x) o := wgc (by decide) rfl (fun j hj => el_rowI _ hj)
theorem uf61 {f : Nat → Int32} : va_up (WG V h o) 61 (.inl (V.2.1 1, 6, .inl f)) = WG V (rowI h 61 f) o := wgc (by decide) rfl (fun j hj => el_rowI _ hj)
theorem g62 : WG V h o 62 = .inl (V.2.1 3, 6, .inl (h.1 62)) := wc_at (by decide) rfl
theorem u62 {i : Nat} {x : Int32} : va_up (WG V h o) 62 (.inl (V.2.1 3, 6, .inl (upd (h.1 62) i x))) = WG V (wI h 62 i x) o := wgc (by decide) rfl (fun j hj => el_rowI _ hj)
theorem uf62 {f : Nat → Int32} : va_up (WG V h o) 62 (.inl (V.2.1 3, 6, .inl f)) = WG V (rowI h 62 f) o := wgc (by decide) rfl (fun j hj => el_rowI _ hj)
theorem g63 : WG V h o 63 = .inr (0, [rf V 64, .int (h.1 63 1), .int (h.1 63 2), .int (h.1 63 3), .int (h.1 63 4)]) := wc_at (by decide) rfl
theorem u63_1 {x : Int32} : va_up (WG V h o) 63 (.inr (0, ([rf V 64, .int (h.1 63 1), .int (h.1 63 2), .int (h.1 63 3), .int (h.1 63 4)] : List Value).set 1 (.int x))) = WG V (wI h 63 1 x) o := wgc (by decide) rfl (fun j hj => el_rowI _ hj)
theorem u63_2 {x : Int32} : va_up (WG V h o) 63 (.inr (0, ([rf V 64, .int (h.1 63 1), .int (h.1 63 2), .int (h.1 63 3), .int (h.1 63 4)] : List Value).set 2 (.int x))) = WG V (wI h 63 2 x) o := wgc (by decide) rfl (fun j hj => el_rowI _ hj)
theorem u63_3 {x : Int32} : va_up (WG V h o) 63 (.inr (0, ([rf V 64, .int (h.1 63 1), .int (h.1 63 2), .int (h.1 63 3), .int (h.1 63 4)] : List Value).set 3 (.int x))) = WG V (wI h 63 3 x) o := wgc (by decide) rfl (fun j hj => el_rowI _ hj)
theorem u63_4 {x : Int32} : va_up (WG V h o) 63 (.inr (0, ([rf V 64, .int (h.1 63 1), .int (h.1 63 2), .int (h.1 63 3), .int (h.1 63 4)] : List Value).set 4 (.int x))) = WG V (wI h 63 4 x) o := wgc (by decide) rfl (fun j hj => el_rowI _ hj)
theorem g64 : WG V h o 64 = .inl (V.2.1 1, 20, .inl (h.1 64)) := wc_at (by decide) rfl
theorem u64 {i : Nat} {x : Int32} : va_up (WG V h o) 64 (.inl (V.2.1 1, 20, .inl (upd (h.1 64) i x))) = WG V (wI h 64 i x) o := wgc (by decide) rfl (fun j hj => el_rowI _ hj)
theorem uf64 {f : Nat → Int32} : va_up (WG V h o) 64 (.inl (V.2.1 1, 20, .inl f)) = WG V (rowI h 64 f) o := wgc (by decide) rfl (fun j hj => el_rowI _ hj)
theorem g65 : WG V h o 65 = .inl (V.2.1 6, 6, .inr (.inr (.inr (.inr (fun i => some (V.2.2.1 + (90 + 2 * i))))))) := wc_at (by decide) rfl
theorem g66 : WG V h o 66 = .inr (2, [.int (h.1 66 0), .int (h.1 66 1), rf V 67, rf V 68, .int (h.1 66 4), rf V 69]) := wc_at (by decide) rfl
theorem u66_0 {x : Int32} : va_up (WG V h o) 66 (.inr (2, ([.int (h.1 66 0), .int (h.1 66 1), rf V 67, rf V 68, .int (h.1 66 4), rf V 69] : List Value).set 0 (.int x))) = WG V (wI h 66 0 x) o := wgc (by decide) rfl (fun j hj => el_rowI _ hj)
theorem u66_1 {x : Int32} : va_up (WG V h o) 66 (.inr (2, ([.int (h.1 66 0), .int (h.1 66 1), rf V 67, rf V 68, .int (h.1 66 4), rf V 69] : List Value).set 1 (.int x))) = WG V (wI h 66 1 x) o := wgc (by decide) rfl (fun j hj => el_rowI _ hj)
theorem u66_4 {x : Int32} : va_up (WG V h o) 66 (.inr (2, ([.int (h.1 66 0), .int (h.1 66 1), rf V 67, rf V 68, .int (h.1 66 4), rf V 69] : List Value).set 4 (.int x))) = WG V (wI h 66 4 x) o := wgc (by decide) rfl (fun j hj => el_rowI _ hj)
theorem g67 : WG V h o 67 = .inl (V.2.1 1, 10, .inl (h.1 67)) := wc_at (by decide) rfl
theorem u67 {i : Nat} {x : Int32} : va_up (WG V h o) 67 (.inl (V.2.1 1, 10, .inl (upd (h.1 67) i x))) = WG V (wI h 67 i x) o := wgc (by decide) rfl (fun j hj => el_rowI _ hj)
theorem uf67 {f : Nat → Int32} : va_up (WG V h o) 67 (.inl (V.2.1 1, 10, .inl f)) = WG V (rowI h 67 f) o := wgc (by decide) rfl (fun j hj => el_rowI _ hj)
theorem g68 : WG V h o 68 = .inl (V.2.1 1, 10, .inl (h.1 68)) := wc_at (by decide) rfl
theorem u68 {i : Nat} {x : Int32} : va_up (WG V h o) 68 (.inl (V.2.1 1, 10, .inl (upd (h.1 68) i x))) = WG V (wI h 68 i x) o := wgc (by decide) rfl (fun j hj => el_rowI _ hj)
theorem uf68 {f : Nat → Int32} : va_up (WG V h o) 68 (.inl (V.2.1 1, 10, .inl f)) = WG V (rowI h 68 f) o := wgc (by decide) rfl (fun j hj => el_rowI _ hj)
theorem g69 : WG V h o 69 = .inl (V.2.1 1, 100, .inl (h.1 69)) := wc_at (by decide) rfl
theorem u69 {i : Nat} {x : Int32} : va_up (WG V h o) 69 (.inl (V.2.1 1, 100, .inl (upd (h.1 69) i x))) = WG V (wI h 69 i x) o := wgc (by decide) rfl (fun j hj => el_rowI _ hj)
theorem uf69 {f : Nat → Int32} : va_up (WG V h o) 69 (.inl (V.2.1 1, 100, .inl f)) = WG V (rowI h 69 f) o := wgc (by decide) rfl (fun j hj => el_rowI _ hj)
theorem g70 : WG V h o 70 = .inr (2, [.int (h.1 70 0), .int (h.1 70 1), rf V 71, rf V 72, .int (h.1 70 4), rf V 73]) := wc_at (by decide) rfl
theorem u70_0 {x : Int32} : va_up (WG V h o) 70 (.inr (2, ([.int (h.1 70 0), .int (h.1 70 1), rf V 71, rf V 72, .int (h.1 70 4), rf V 73] : List Value).set 0 (.int x))) = WG V (wI h 70 0 x) o := wgc (by decide) rfl (fun j hj => el_rowI _ hj)
theorem u70_1 {x : Int32} : va_up (WG V h o) 70 (.inr (2, ([.int (h.1 70 0), .int (h.1 70 1), rf V 71, rf V 72, .int (h.1 70 4), rf V 73] : List Value).set 1 (.int x))) = WG V (wI h 70 1 x) o := wgc (by decide) rfl (fun j hj => el_rowI _ hj)
theorem u70_4 {x : Int32} : va_up (WG V h o) 70 (.inr (2, ([.int (h.1 70 0), .int (h.1 70 1), rf V 71, rf V 72, .int (h.1 70 4), rf V 73] : List Value).set 4 (.int x))) = WG V (wI h 70 4 x) o := wgc (by decide) rfl (fun j hj => el_rowI _ hj)
theorem g71 : WG V h o 71 = .inl (V.2.1 1, 10, .inl (h.1 71)) := wc_at (by decide) rfl
theorem u71 {i : Nat} {x : Int32} : va_up (WG V h o) 71 (.inl (V.2.1 1, 10, .inl (upd (h.1 71) i x))) = WG V (wI h 71 i x) o := wgc (by decide) rfl (fun j hj => el_rowI _ hj)
theorem uf71 {f : Nat → Int32} : va_up (WG V h o) 71 (.inl (V.2.1 1, 10, .inl f)) = WG V (rowI h 71 f) o := wgc (by decide) rfl (fun j hj => el_rowI _ hj)
theorem g72 : WG V h o 72 = .inl (V.2.1 1, 10, .inl (h.1 72)) := wc_at (by decide) rfl
theorem u72 {i : Nat} {x : Int32} : va_up (WG V h o) 72 (.inl (V.2.1 1, 10, .inl (upd (h.1 72) i x))) = WG V (wI h 72 i x) o := wgc (by decide) rfl (fun j hj => el_rowI _ hj)
theorem uf72 {f : Nat → Int32} : va_up (WG V h o) 72 (.inl (V.2.1 1, 10, .inl f)) = WG V (rowI h 72 f) o := wgc (by decide) rfl (fun j hj => el_rowI _ hj)
theorem g73 : WG V h o 73 = .inl (V.2.1 1, 100, .inl (h.1 73)) := wc_at (by decide) rfl
theorem u73 {i : Nat} {x : Int32} : va_up (WG V h o) 73 (.inl (V.2.1 1, 100, .inl (upd (h.1 73) i x))) = WG V (wI h 73 i x) o := wgc (by decide) rfl (fun j hj => el_rowI _ hj)
theorem uf73 {f : Nat → Int32} : va_up (WG V h o) 73 (.inl (V.2.1 1, 100, .inl f)) = WG V (rowI h 73 f) o := wgc (by decide) rfl (fun j hj => el_rowI _ hj)
theorem g74 : WG V h o 74 = .inr (2, [.int (h.1 74 0), .int (h.1 74 1), rf V 75, rf V 76, .int (h.1 74 4), rf V 77]) := wc_at (by decide) rfl
theorem u74_0 {x : Int32} : va_up (WG V h o) 74 (.inr (2, ([.int (h.1 74 0), .int (h.1 74 1), rf V 75, rf V 76, .int (h.1 74 4), rf V 77] : List Value).set 0 (.int x))) = WG V (wI h 74 0 x) o := wgc (by decide) rfl (fun j hj => el_rowI _ hj)
theorem u74_1 {x : Int32} : va_up (WG V h o) 74 (.inr (2, ([.int (h.1 74 0), .int (h.1 74 1), rf V 75, rf V 76, .int (h.1 74 4), rf V 77] : List Value).set 1 (.int x))) = WG V (wI h 74 1 x) o := wgc (by decide) rfl (fun j hj => el_rowI _ hj)
theorem u74_4 {x : Int32} : va_up (WG V h o) 74 (.inr (2, ([.int (h.1 74 0), .int (h.1 74 1), rf V 75, rf V 76, .int (h.1 74 4), rf V 77] : List Value).set 4 (.int x))) = WG V (wI h 74 4 x) o := wgc (by decide) rfl (fun j hj => el_rowI _ hj)
theorem g75 : WG V h o 75 = .inl (V.2.1 1, 10, .inl (h.1 75)) := wc_at (by decide) rfl
theorem u75 {i : Nat} {x : Int32} : va_up (WG V h o) 75 (.inl (V.2.1 1, 10, .inl (upd (h.1 75) i x))) = WG V (wI h 75 i x) o := wgc (by decide) rfl (fun j hj => el_rowI _ hj)
theorem uf75 {f : Nat → Int32} : va_up (WG V h o) 75 (.inl (V.2.1 1, 10, .inl f)) = WG V (rowI h 75 f) o := wgc (by decide) rfl (fun j hj => el_rowI _ hj)
theorem g76 : WG V h o 76 = .inl (V.2.1 1, 10, .inl (h.1 76)) := wc_at (by decide) rfl
theorem u76 {i : Nat} {x : Int32} : va_up (WG V h o) 76 (.inl (V.2.1 1, 10, .inl (upd (h.1 76) i x))) = WG V (wI h 76 i x) o := wgc (by decide) rfl (fun j hj => el_rowI _ hj)
theorem uf76 {f : Nat → Int32} : va_up (WG V h o) 76 (.inl (V.2.1 1, 10, .inl f)) = WG V (rowI h 76 f) o := wgc (by decide) rfl (fun j hj => el_rowI _ hj)
theorem g77 : WG V h o 77 = .inl (V.2.1 1, 100, .inl (h.1 77)) := wc_at (by decide) rfl
theorem u77 {i : Nat} {x : Int32} : va_up (WG V h o) 77 (.inl (V.2.1 1, 100, .inl (upd (h.1 77) i x))) = WG V (wI h 77 i x) o := wgc (by decide) rfl (fun j hj => el_rowI _ hj)
theorem uf77 {f : Nat → Int32} : va_up (WG V h o) 77 (.inl (V.2.1 1, 100, .inl f)) = WG V (rowI h 77 f) o := wgc (by decide) rfl (fun j hj => el_rowI _ hj)
theorem g78 : WG V h o 78 = .inr (2, [.int (h.1 78 0), .int (h.1 78 1), rf V 79, rf V 80, .int (h.1 78 4), rf V 81]) := wc_at (by decide) rfl
theorem u78_0 {x : Int32} : va_up (WG V h o) 78 (.inr (2, ([.int (h.1 78 0), .int (h.1 78 1), rf V 79, rf V 80, .int (h.1 78 4), rf V 81] : List Value).set 0 (.int x))) = WG V (wI h 78 0 x) o := wgc (by decide) rfl (fun j hj => el_rowI _ hj)
theorem u78_1 {x : Int32} : va_up (WG V h o) 78 (.inr (2, ([.int (h.1 78 0), .int (h.1 78 1), rf V 79, rf V 80, .int (h.1 78 4), rf V 81] : List Value).set 1 (.int x))) = WG V (wI h 78 1 x) o := wgc (by decide) rfl (fun j hj => el_rowI _ hj)
theorem u78_4 {x : Int32} : va_up (WG V h o) 78 (.inr (2, ([.int (h.1 78 0), .int (h.1 78 1), rf V 79, rf V 80, .int (h.1 78 4), rf V 81] : List Value).set 4 (.int x))) = WG V (wI h 78 4 x) o := wgc (by decide) rfl (fun j hj => el_rowI _ hj)
theorem g79 : WG V h o 79 = .inl (V.2.1 1, 10, .inl (h.1 79)) := wc_at (by decide) rfl
theorem u79 {i : Nat} {x : Int32} : va_up (WG V h o) 79 (.inl (V.2.1 1, 10, .inl (upd (h.1 79) i x))) = WG V (wI h 79 i x) o := wgc (by decide) rfl (fun j hj => el_rowI _ hj)
theorem uf79 {f : Nat → Int32} : va_up (WG V h o) 79 (.inl (V.2.1 1, 10, .inl f)) = WG V (rowI h 79 f) o := wgc (by decide) rfl (fun j hj => el_rowI _ hj)
theorem g80 : WG V h o 80 = .inl (V.2.1 1, 10, .inl (h.1 80)) := wc_at (by decide) rfl
theorem u80 {i : Nat} {x : Int32} : va_up (WG V h o) 80 (.inl (V.2.1 1, 10, .inl (upd (h.1 80) i x))) = WG V (wI h 80 i x) o := wgc (by decide) rfl (fun j hj => el_rowI _ hj)
theorem uf80 {f : Nat → Int32} : va_up (WG V h o) 80 (.inl (V.2.1 1, 10, .inl f)) = WG V (rowI h 80 f) o := wgc (by decide) rfl (fun j hj => el_rowI _ hj)
theorem g81 : WG V h o 81 = .inl (V.2.1 1, 100, .inl (h.1 81)) := wc_at (by decide) rfl
theorem u81 {i : Nat} {x : Int32} : va_up (WG V h o) 81 (.inl (V.2.1 1, 100, .inl (upd (h.1 81) i x))) = WG V (wI h 81 i x) o := wgc (by decide) rfl (fun j hj => el_rowI _ hj)
theorem uf81 {f : Nat → Int32} : va_up (WG V h o) 81 (.inl (V.2.1 1, 100, .inl f)) = WG V (rowI h 81 f) o := wgc (by decide) rfl (fun j hj => el_rowI _ hj)
theorem g82 : WG V h o 82 = .inr (2, [.int (h.1 82 0), .int (h.1 82 1), rf V 83, rf V 84, .int (h.1 82 4), rf V 85]) := wc_at (by decide) rfl
theorem u82_0 {x : Int32} : va_up (WG V h o) 82 (.inr (2, ([.int (h.1 82 0), .int (h.1 82 1), rf V 83, rf V 84, .int (h.1 82 4), rf V 85] : List Value).set 0 (.int x))) = WG V (wI h 82 0 x) o := wgc (by decide) rfl (fun j hj => el_rowI _ hj)
theorem u82_1 {x : Int32} : va_up (WG V h o) 82 (.inr (2, ([.int (h.1 82 0), .int (h.1 82 1), rf V 83, rf V 84, .int (h.1 82 4), rf V 85] : List Value).set 1 (.int x))) = WG V (wI h 82 1 x) o := wgc (by decide) rfl (fun j hj => el_rowI _ hj)
theorem u82_4 {x : Int32} : va_up (WG V h o) 82 (.inr (2, ([.int (h.1 82 0), .int (h.1 82 1), rf V 83, rf V 84, .int (h.1 82 4), rf V 85] : List Value).set 4 (.int x))) = WG V (wI h 82 4 x) o := wgc (by decide) rfl (fun j hj => el_rowI _ hj)
theorem g83 : WG V h o 83 = .inl (V.2.1 1, 10, .inl (h.1 83)) := wc_at (by decide) rfl
theorem u83 {i : Nat} {x : Int32} : va_up (WG V h o) 83 (.inl (V.2.1 1, 10, .inl (upd (h.1 83) i x))) = WG V (wI h 83 i x) o := wgc (by decide) rfl (fun j hj => el_rowI _ hj)
theorem uf83 {f : Nat → Int32} : va_up (WG V h o) 83 (.inl (V.2.1 1, 10, .inl f)) = WG V (rowI h 83 f) o := wgc (by decide) rfl (fun j hj => el_rowI _ hj)
theorem g84 : WG V h o 84 = .inl (V.2.1 1, 10, .inl (h.1 84)) := wc_at (by decide) rfl
theorem u84 {i : Nat} {x : Int32} : va_up (WG V h o) 84 (.inl (V.2.1 1, 10, .inl (upd (h.1 84) i x))) = WG V (wI h 84 i x) o := wgc (by decide) rfl (fun j hj => el_rowI _ hj)
theorem uf84 {f : Nat → Int32} : va_up (WG V h o) 84 (.inl (V.2.1 1, 10, .inl f)) = WG V (rowI h 84 f) o := wgc (by decide) rfl (fun j hj => el_rowI _ hj)
theorem g85 : WG V h o 85 = .inl (V.2.1 1, 100, .inl (h.1 85)) := wc_at (by decide) rfl
theorem u85 {i : Nat} {x : Int32} : va_up (WG V h o) 85 (.inl (V.2.1 1, 100, .inl (upd (h.1 85) i x))) = WG V (wI h 85 i x) o := wgc (by decide) rfl (fun j hj => el_rowI _ hj)
theorem uf85 {f : Nat → Int32} : va_up (WG V h o) 85 (.inl (V.2.1 1, 100, .inl f)) = WG V (rowI h 85 f) o := wgc (by decide) rfl (fun j hj => el_rowI _ hj)
theorem g86 : WG V h o 86 = .inr (2, [.int (h.1 86 0), .int (h.1 86 1), rf V 87, rf V 88, .int (h.1 86 4), rf V 89]) := wc_at (by decide) rfl
theorem u86_0 {x : Int32} : va_up (WG V h o) 86 (.inr (2, ([.int (h.1 86 0), .int (h.1 86 1), rf V 87, rf V 88, .int (h.1 86 4), rf V 89] : List Value).set 0 (.int x))) = WG V (wI h 86 0 x) o := wgc (by decide) rfl (fun j hj => el_rowI _ hj)
theorem u86_1 {x : Int32} : va_up (WG V h o) 86 (.inr (2, ([.int (h.1 86 0), .int (h.1 86 1), rf V 87, rf V 88, .int (h.1 86 4), rf V 89] : List Value).set 1 (.int x))) = WG V (wI h 86 1 x) o := wgc (by decide) rfl (fun j hj => el_rowI _ hj)
theorem u86_4 {x : Int32} : va_up (WG V h o) 86 (.inr (2, ([.int (h.1 86 0), .int (h.1 86 1), rf V 87, rf V 88, .int (h.1 86 4), rf V 89] : List Value).set 4 (.int x))) = WG V (wI h 86 4 x) o := wgc (by decide) rfl (fun j hj => el_rowI _ hj)
theorem g87 : WG V h o 87 = .inl (V.2.1 1, 10, .inl (h.1 87)) := wc_at (by decide) rfl
theorem u87 {i : Nat} {x : Int32} : va_up (WG V h o) 87 (.inl (V.2.1 1, 10, .inl (upd (h.1 87) i x))) = WG V (wI h 87 i x) o := wgc (by decide) rfl (fun j hj => el_rowI _ hj)
theorem uf87 {f : Nat → Int32} : va_up (WG V h o) 87 (.inl (V.2.1 1, 10, .inl f)) = WG V (rowI h 87 f) o := wgc (by decide) rfl (fun j hj => el_rowI _ hj)
theorem g88 : WG V h o 88 = .inl (V.2.1 1, 10, .inl (h.1 88)) := wc_at (by decide) rfl
theorem u88 {i : Nat} {x : Int32} : va_up (WG V h o) 88 (.inl (V.2.1 1, 10, .inl (upd (h.1 88) i x))) = WG V (wI h 88 i x) o := wgc (by decide) rfl (fun j hj => el_rowI _ hj)
theorem uf88 {f : Nat → Int32} : va_up (WG V h o) 88 (.inl (V.2.1 1, 10, .inl f)) = WG V (rowI h 88 f) o := wgc (by decide) rfl (fun j hj => el_rowI _ hj)
theorem g89 : WG V h o 89 = .inl (V.2.1 1, 100, .inl (h.1 89)) := wc_at (by decide) rfl
theorem u89 {i : Nat} {x : Int32} : va_up (WG V h o) 89 (.inl (V.2.1 1, 100, .inl (upd (h.1 89) i x))) = WG V (wI h 89 i x) o := wgc (by decide) rfl (fun j hj => el_rowI _ hj)
theorem uf89 {f : Nat → Int32} : va_up (WG V h o) 89 (.inl (V.2.1 1, 100, .inl f)) = WG V (rowI h 89 f) o := wgc (by decide) rfl (fun j hj => el_rowI _ hj)
theorem g90 : WG V h o 90 = .inr (8, [.int (h.1 90 0), .int (h.1 90 1), rf V 91]) := wc_at (by decide) rfl
theorem u90_0 {x : Int32} : va_up (WG V h o) 90 (.inr (8, ([.int (h.1 90 0), .int (h.1 90 1), rf V 91] : List Value).set 0 (.int x))) = WG V (wI h 90 0 x) o := wgc (by decide) rfl (fun j hj => el_rowI _ hj)
theorem u90_1 {x : Int32} : va_up (WG V h o) 90 (.inr (8, ([.int (h.1 90 0), .int (h.1 90 1), rf V 91] : List Value).set 1 (.int x))) = WG V (wI h 90 1 x) o := wgc (by decide) rfl (fun j hj => el_rowI _ hj)
theorem g91 : WG V h o 91 = .inl (V.2.1 2, 60, .inr (.inl (h.2.1 91))) := wc_at (by decide) rfl
theorem u91 {i : Nat} {x : Int64} : va_up (WG V h o) 91 (.inl (V.2.1 2, 60, .inr (.inl (vp_updL (h.2.1 91) i x)))) = WG V (wL h 91 i x) o := wgc (by decide) rfl (fun j hj => el_rowL _ hj)
theorem uf91 {f : Nat → Int64} : va_up (WG V h o) 91 (.inl (V.2.1 2, 60, .inr (.inl f))) = WG V (rowL h 91 f) o := wgc (by decide) rfl (fun j hj => el_rowL _ hj)
theorem g92 : WG V h o 92 = .inr (8, [.int (h.1 92 0), .int (h.1 92 1), rf V 93]) := wc_at (by decide) rfl
theorem u92_0 {x : Int32} : va_up (WG V h o) 92 (.inr (8, ([.int (h.1 92 0), .int (h.1 92 1), rf V 93] : List Value).set 0 (.int x))) = WG V (wI h 92 0 x) o := wgc (by decide) rfl (fun j hj => el_rowI _ hj)
theorem u92_1 {x : Int32} : va_up (WG V h o) 92 (.inr (8, ([.int (h.1 92 0), .int (h.1 92 1), rf V 93] : List Value).set 1 (.int x))) = WG V (wI h 92 1 x) o := wgc (by decide) rfl (fun j hj => el_rowI _ hj)
theorem g93 : WG V h o 93 = .inl (V.2.1 2, 60, .inr (.inl (h.2.1 93))) := wc_at (by decide) rfl
theorem u93 {i : Nat} {x : Int64} : va_up (WG V h o) 93 (.inl (V.2.1 2, 60, .inr (.inl (vp_updL (h.2.1 93) i x)))) = WG V (wL h 93 i x) o := wgc (by decide) rfl (fun j hj => el_rowL _ hj)
theorem uf93 {f : Nat → Int64} : va_up (WG V h o) 93 (.inl (V.2.1 2, 60, .inr (.inl f))) = WG V (rowL h 93 f) o := wgc (by decide) rfl (fun j hj => el_rowL _ hj)
theorem g94 : WG V h o 94 = .inr (8, [.int (h.1 94 0), .int (h.1 94 1), rf V 95]) := wc_at (by decide) rfl
theorem u94_0 {x : Int32} : va_up (WG V h o) 94 (.inr (8, ([.int (h.1 94 0), .int (h.1 94 1), rf V 95] : List Value).set 0 (.int x))) = WG V (wI h 94 0 x) o := wgc (by decide) rfl (fun j hj => el_rowI _ hj)
theorem u94_1 {x : Int32} : va_up (WG V h o) 94 (.inr (8, ([.int (h.1 94 0), .int (h.1 94 1), rf V 95] : List Value).set 1 (.int x))) = WG V (wI h 94 1 x) o := wgc (by decide) rfl (fun j hj => el_rowI _ hj)
theorem g95 : WG V h o 95 = .inl (V.2.1 2, 60, .inr (.inl (h.2.1 95))) := wc_at (by decide) rfl
theorem u95 {i : Nat} {x : Int64} : va_up (WG V h o) 95 (.inl (V.2.1 2, 60, .inr (.inl (vp_updL (h.2.1 95) i x)))) = WG V (wL h 95 i x) o := wgc (by decide) rfl (fun j hj => el_rowL _ hj)
theorem uf95 {f : Nat → Int64} : va_up (WG V h o) 95 (.inl (V.2.1 2, 60, .inr (.inl f))) = WG V (rowL h 95 f) o := wgc (by decide) rfl (fun j hj => el_rowL _ hj)
theorem g96 : WG V h o 96 = .inr (8, [.int (h.1 96 0), .int (h.1 96 1), rf V 97]) := wc_at (by decide) rfl
theorem u96_0 {x : Int32} : va_up (WG V h o) 96 (.inr (8, ([.int (h.1 96 0), .int (h.1 96 1), rf V 97] : List Value).set 0 (.int x))) = WG V (wI h 96 0 x) o := wgc (by decide) rfl (fun j hj => el_rowI _ hj)
theorem u96_1 {x : Int32} : va_up (WG V h o) 96 (.inr (8, ([.int (h.1 96 0), .int (h.1 96 1), rf V 97] : List Value).set 1 (.int x))) = WG V (wI h 96 1 x) o := wgc (by decide) rfl (fun j hj => el_rowI _ hj)
theorem g97 : WG V h o 97 = .inl (V.2.1 2, 60, .inr (.inl (h.2.1 97))) := wc_at (by decide) rfl
theorem u97 {i : Nat} {x : Int64} : va_up (WG V h o) 97 (.inl (V.2.1 2, 60, .inr (.inl (vp_updL (h.2.1 97) i x)))) = WG V (wL h 97 i x) o := wgc (by decide) rfl (fun j hj => el_rowL _ hj)
theorem uf97 {f : Nat → Int64} : va_up (WG V h o) 97 (.inl (V.2.1 2, 60, .inr (.inl f))) = WG V (rowL h 97 f) o := wgc (by decide) rfl (fun j hj => el_rowL _ hj)
theorem g98 : WG V h o 98 = .inr (8, [.int (h.1 98 0), .int (h.1 98 1), rf V 99]) := wc_at (by decide) rfl
theorem u98_0 {x : Int32} : va_up (WG V h o) 98 (.inr (8, ([.int (h.1 98 0), .int (h.1 98 1), rf V 99] : List Value).set 0 (.int x))) = WG V (wI h 98 0 x) o := wgc (by decide) rfl (fun j hj => el_rowI _ hj)
theorem u98_1 {x : Int32} : va_up (WG V h o) 98 (.inr (8, ([.int (h.1 98 0), .int (h.1 98 1), rf V 99] : List Value).set 1 (.int x))) = WG V (wI h 98 1 x) o := wgc (by decide) rfl (fun j hj => el_rowI _ hj)
theorem g99 : WG V h o 99 = .inl (V.2.1 2, 60, .inr (.inl (h.2.1 99))) := wc_at (by decide) rfl
theorem u99 {i : Nat} {x : Int64} : va_up (WG V h o) 99 (.inl (V.2.1 2, 60, .inr (.inl (vp_updL (h.2.1 99) i x)))) = WG V (wL h 99 i x) o := wgc (by decide) rfl (fun j hj => el_rowL _ hj)
theorem uf99 {f : Nat → Int64} : va_up (WG V h o) 99 (.inl (V.2.1 2, 60, .inr (.inl f))) = WG V (rowL h 99 f) o := wgc (by decide) rfl (fun j hj => el_rowL _ hj)
theorem g100 : WG V h o 100 = .inr (8, [.int (h.1 100 0), .int (h.1 100 1), rf V 101]) := wc_at (by decide) rfl
theorem u100_0 {x : Int32} : va_up (WG V h o) 100 (.inr (8, ([.int (h.1 100 0), .int (h.1 100 1), rf V 101] : List Value).set 0 (.int x))) = WG V (wI h 100 0 x) o := wgc (by decide) rfl (fun j hj => el_rowI _ hj)
theorem u100_1 {x : Int32} : va_up (WG V h o) 100 (.inr (8, ([.int (h.1 100 0), .int (h.1 100 1), rf V 101] : List Value).set 1 (.int x))) = WG V (wI h 100 1 x) o := wgc (by decide) rfl (fun j hj => el_rowI _ hj)
theorem g101 : WG V h o 101 = .inl (V.2.1 2, 60, .inr (.inl (h.2.1 101))) := wc_at (by decide) rfl
theorem u101 {i : Nat} {x : Int64} : va_up (WG V h o) 101 (.inl (V.2.1 2, 60, .inr (.inl (vp_updL (h.2.1 101) i x)))) = WG V (wL h 101 i x) o := wgc (by decide) rfl (fun j hj => el_rowL _ hj)
theorem uf101 {f : Nat → Int64} : va_up (WG V h o) 101 (.inl (V.2.1 2, 60, .inr (.inl f))) = WG V (rowL h 101 f) o := wgc (by decide) rfl (fun j hj => el_rowL _ hj)
theorem g102 : WG V o h 102 = .inr (10, [.int (h.1 102 0), .int (h.1 102 1), .int (h.1 102 2), rf V 103, rf V 104, rf V 105, rf V 106, .int (h.1 102 7), .int (h.1 102 8), .int (h.1 102 9), .int (h.1 102 10), .int (h.1 102 11), rf V 107, rf V 108, rf V 109, rf V 110, rf V 111, rf V 112, rf V 113, rf V 114, .int (h.1 102 20), .int (h.1 102 21), .int (h.1 102 22), rf V 115, rf V 116, .int (h.1 102 25), rf V 117, rf V 118, .int (h.1 102 28), .int (h.1 102 29), rf V 119, rf V 120, rf V 121, .int (h.1 102 33), rf V 122, rf V 123, rf V 124, .int (h.1 102 37), .int (h.1 102 38), rf V 125, rf V 126, rf V 127, .int (h.1 102 42), .int (h.1 102 43), .int (h.1 102 44), .int (h.1 102 45), .int (h.1 102 46), .int (h.1 102 47), .int (h.1 102 48), .int (h.1 102 49), rf V 128, rf V 129, rf V 130, rf V 131, rf V 132, rf V 133, rf V 134, rf V 135, rf V 136, rf V 137, .int (h.1 102 60), rf V 138, rf V 139, rf V 140, rf V 141, rf V 142]) := wm_at (by decide) rfl
theorem u102_0 {x : Int32} : va_up (WG V o h) 102 (.inr (10, ([.int (h.1 102 0), .int (h.1 102 1), .int (h.1 102 2), rf V 103, rf V 104, rf V 105, rf V 106, .int (h.1 102 7), .int (h.1 102 8), .int (h.1 102 9), .int (h.1 102 10), .int (h.1 102 11), rf V 107, rf V 108, rf V 109, rf V 110, rf V 111, rf V 112, rf V 113, rf V 114, .int (h.1 102 20), .int (h.1 102 21), .int (h.1 102 22), rf V 115, rf V 116, .int (h.1 102 25), rf V 117, rf V 118, .int (h.1 102 28), .int (h.1 102 29), rf V 119, rf V 120, rf V 121, .int (h.1 102 33), rf V 122, rf V 123, rf V 124, .int (h.1 102 37), .int (h.1 102 38), rf V 125, rf V 126, rf V 127, .int (h.1 102 42), .int (h.1 102 43), .int (h.1 102 44), .int (h.1 102 45), .int (h.1 102 46), .int (h.1 102 47), .int (h.1 102 48), .int (h.1 102 49), rf V 128, rf V 129, rf V 130, rf V 131, rf V 132, rf V 133, rf V 134, rf V 135, rf V 136, rf V 137, .int (h.1 102 60), rf V 138, rf V 139, rf V 140, rf V 141, rf V 142] : List Value).set 0 (.int x))) = WG V o (wI h 102 0 x) := wgm (by decide) rfl (fun j hj => el_rowI _ hj)
theorem u102_1 {x : Int32} : va_up (WG V o h) 102 (.inr (10, ([.int (h.1 102 0), .int (h.1 102 1), .int (h.1 102 2), rf V 103, rf V 104, rf V 105, rf V 106, .int (h.1 102 7), .int (h.1 102 8), .int (h.1 102 9), .int (h.1 102 10), .int (h.1 102 11), rf V 107, rf V 108, rf V 109, rf V 110, rf V 111, rf V 112, rf V 113, rf V 114, .int (h.1 102 20), .int (h.1 102 21), .int (h.1 102 22), rf V 115, rf V 116, .int (h.1 102 25), rf V 117, rf V 118, .int (h.1 102 28), .int (h.1 102 29), rf V 119, rf V 120, rf V 121, .int (h.1 102 33), rf V 122, rf V 123, rf V 124, .int (h.1 102 37), .int (h.1 102 38), rf V 125, rf V 126, rf V 127, .int (h.1 102 42), .int (h.1 102 43), .int (h.1 102 44), .int (h.1 102 45), .int (h.1 102 46), .int (h.1 102 47), .int (h.1 102 48), .int (h.1 102 49), rf V 128, rf V 129, rf V 130, rf V 131, rf V 132, rf V 133, rf V 134, rf V 135, rf V 136, rf V 137, .int (h.1 102 60), rf V 138, rf V 139, rf V 140, rf V 141, rf V 142] : List Value).set 1 (.int x))) = WG V o (wI h 102 1 x) := wgm (by decide) rfl (fun j hj => el_rowI _ hj)
theorem u102_2 {x : Int32} : va_up (WG V o h) 102 (.inr (10, ([.int (h.1 102 0), .int (h.1 102 1), .int (h.1 102 2), rf V 103, rf V 104, rf V 105, rf V 106, .int (h.1 102 7), .int (h.1 102 8), .int (h.1 102 9), .int (h.1 102 10), .int (h.1 102 11), rf V 107, rf V 108, rf V 109, rf V 110, rf V 111, rf V 112, rf V 113, rf V 114, .int (h.1 102 20), .int (h.1 102 21), .int (h.1 102 22), rf V 115, rf V 116, .int (h.1 102 25), rf V 117, rf V 118, .int (h.1 102 28), .int (h.1 102 29), rf V 119, rf V 120, rf V 121, .int (h.1 102 33), rf V 122, rf V 123, rf V 124, .int (h.1 102 37), .int (h.1 102 38), rf V 125, rf V 126, rf V 127, .int (h.1 102 42), .int (h.1 102 43), .int (h.1 102 44), .int (h.1 102 45), .int (h.1 102 46), .int (h.1 102 47), .int (h.1 102 48), .int (h.1 102 49), rf V 128, rf V 129, rf V 130, rf V 131, rf V 132, rf V 133, rf V 134, rf V 135, rf V 136, rf V 137, .int (h.1 102 60), rf V 138, rf V 139, rf V 140, rf V 141, rf V 142] : List Value).set 2 (.int x))) = WG V o (wI h 102 2 x) := wgm (by decide) rfl (fun j hj => el_rowI _ hj)
theorem u102_7 {x : Int32} : va_up (WG V o h) 102 (.inr (10, ([.int (h.1 102 0), .int (h.1 102 1), .int (h.1 102 2), rf V 103, rf V 104, rf V 105, rf V 106, .int (h.1 102 7), .int (h.1 102 8), .int (h.1 102 9), .int (h.1 102 10), .int (h.1 102 11), rf V 107, rf V 108, rf V 109, rf V 110, rf V 111, rf V 112, rf V 113, rf V 114, .int (h.1 102 20), .int (h.1 102 21), .int (h.1 102 22), rf V 115, rf V 116, .int (h.1 102 25), rf V 117, rf V 118, .int (h.1 102 28), .int (h.1 102 29), rf V 119, rf V 120, rf V 121, .int (h.1 102 33), rf V 122, rf V 123, rf V 124, .int (h.1 102 37), .int (h.1 102 38), rf V 125, rf V 126, rf V 127, .int (h.1 102 42), .int (h.1 102 43), .int (h.1 102 44), .int (h.1 102 45), .int (h.1 102 46), .int (h.1 102 47), .int (h.1 102 48), .int (h.1 102 49), rf V 128, rf V 129, rf V 130, rf V 131, rf V 132, rf V 133, rf V 134, rf V 135, rf V 136, rf V 137, .int (h.1 102 60), rf V 138, rf V 139, rf V 140, rf V 141, rf V 142] : List Value).set 7 (.int x))) = WG V o (wI h 102 7 x) := wgm (by decide) rfl (fun j hj => el_rowI _ hj)
theorem u102_8 {x : Int32} : va_up (WG V o h) 102 (.inr (10, ([.int (h.1 102 0), .int (h.1 102 1), .int (h.1 102 2), rf V 103, rf V 104, rf V 105, rf V 106, .int (h.1 102 7), .int (h.1 102 8), .int (h.1 102 9), .int (h.1 102 10), .int (h.1 102 11), rf V 107, rf V 108, rf V 109, rf V 110, rf V 111, rf V 112, rf V 113, rf V 114, .int (h.1 102 20), .int (h.1 102 21), .int (h.1 102 22), rf V 115, rf V 116, .int (h.1 102 25), rf V 117, rf V 118, .int (h.1 102 28), .int (h.1 102 29), rf V 119, rf V 120, rf V 121, .int (h.1 102 33), rf V 122, rf V 123, rf V 124, .int (h.1 102 37), .int (h.1 102 38), rf V 125, rf V 126, rf V 127, .int (h.1 102 42), .int (h.1 102 43), .int (h.1 102 44), .int (h.1 102 45), .int (h.1 102 46), .int (h.1 102 47), .int (h.1 102 48), .int (h.1 102 49), rf V 128, rf V 129, rf V 130, rf V 131, rf V 132, rf V 133, rf V 134, rf V 135, rf V 136, rf V 137, .int (h.1 102 60), rf V 138, rf V 139, rf V 140, rf V 141, rf V 142] : List Value).set 8 (.int x))) = WG V o (wI h 102 8 x) := wgm (by decide) rfl (fun j hj => el_rowI _ hj)
theorem u102_9 {x : Int32} : va_up (WG V o h) 102 (.inr (10, ([.int (h.1 102 0), .int (h.1 102 1), .int (h.1 102 2), rf V 103, rf V 104, rf V 105, rf V 106, .int (h.1 102 7), .int (h.1 102 8), .int (h.1 102 9), .int (h.1 102 10), .int (h.1 102 11), rf V 107, rf V 108, rf V 109, rf V 110, rf V 111, rf V 112, rf V 113, rf V 114, .int (h.1 102 20), .int (h.1 102 21), .int (h.1 102 22), rf V 115, rf V 116, .int (h.1 102 25), rf V 117, rf V 118, .int (h.1 102 28), .int (h.1 102 29), rf V 119, rf V 120, rf V 121, .int (h.1 102 33), rf V 122, rf V 123, rf V 124, .int (h.1 102 37), .int (h.1 102 38), rf V 125, rf V 126, rf V 127, .int (h.1 102 42), .int (h.1 102 43), .int (h.1 102 44), .int (h.1 102 45), .int (h.1 102 46), .int (h.1 102 47), .int (h.1 102 48), .int (h.1 102 49), rf V 128, rf V 129, rf V 130, rf V 131, rf V 132, rf V 133, rf V 134, rf V 135, rf V 136, rf V 137, .int (h.1 102 60), rf V 138, rf V 139, rf V 140, rf V 141, rf V 142] : List Value).set 9 (.int x))) = WG V o (wI h 102 9 x) := wgm (by decide) rfl (fun j hj => el_rowI _ hj)
theorem u102_10 {x : Int32} : va_up (WG V o h) 102 (.inr (10, ([.int (h.1 102 0), .int (h.1 102 1), .int (h.1 102 2), rf V 103, rf V 104, rf V 105, rf V 106, .int (h.1 102 7), .int (h.1 102 8), .int (h.1 102 9), .int (h.1 102 10), .int (h.1 102 11), rf V 107, rf V 108, rf V 109, rf V 110, rf V 111, rf V 112, rf V 113, rf V 114, .int (h.1 102 20), .int (h.1 102 21), .int (h.1 102 22), rf V 115, rf V 116, .int (h.1 102 25), rf V 117, rf V 118, .int (h.1 102 28), .int (h.1 102 29), rf V 119, rf V 120, rf V 121, .int (h.1 102 33), rf V 122, rf V 123, rf V 124, .int (h.1 102 37), .int (h.1 102 38), rf V 125, rf V 126, rf V 127, .int (h.1 102 42), .int (h.1 102 43), .int (h.1 102 44), .int (h.1 102 45), .int (h.1 102 46), .int (h.1 102 47), .int (h.1 102 48), .int (h.1 102 49), rf V 128, rf V 129, rf V 130, rf V 131, rf V 132, rf V 133, rf V 134, rf V 135, rf V 136, rf V 137, .int (h.1 102 60), rf V 138, rf V 139, rf V 140, rf V 141, rf V 142] : List Value).set 10 (.int x))) = WG V o (wI h 102 10 x) := wgm (by decide) rfl (fun j hj => el_rowI _ hj)
theorem u102_11 {x : Int32} : va_up (WG V o h) 102 (.inr (10, ([.int (h.1 102 0), .int (h.1 102 1), .int (h.1 102 2), rf V 103, rf V 104, rf V 105, rf V 106, .int (h.1 102 7), .int (h.1 102 8), .int (h.1 102 9), .int (h.1 102 10), .int (h.1 102 11), rf V 107, rf V 108, rf V 109, rf V 110, rf V 111, rf V 112, rf V 113, rf V 114, .int (h.1 102 20), .int (h.1 102 21), .int (h.1 102 22), rf V 115, rf V 116, .int (h.1 102 25), rf V 117, rf V 118, .int (h.1 102 28), .int (h.1 102 29), rf V 119, rf V 120, rf V 121, .int (h.1 102 33), rf V 122, rf V 123, rf V 124, .int (h.1 102 37), .int (h.1 102 38), rf V 125, rf V 126, rf V 127, .int (h.1 102 42), .int (h.1 102 43), .int (h.1 102 44), .int (h.1 102 45), .int (h.1 102 46), .int (h.1 102 47), .int (h.1 102 48), .int (h.1 102 49), rf V 128, rf V 129, rf V 130, rf V 131, rf V 132, rf V 133, rf V 134, rf V 135, rf V 136, rf V 137, .int (h.1 102 60), rf V 138, rf V 139, rf V 140, rf V 141, rf V 142] : List Value).set 11 (.int x))) = WG V o (wI h 102 11 x) := wgm (by decide) rfl (fun j hj => el_rowI _ hj)
theorem u102_20 {x : Int32} : va_up (WG V o h) 102 (.inr (10, ([.int (h.1 102 0), .int (h.1 102 1), .int (h.1 102 2), rf V 103, rf V 104, rf V 105, rf V 106, .int (h.1 102 7), .int (h.1 102 8), .int (h.1 102 9), .int (h.1 102 10), .int (h.1 102 11), rf V 107, rf V 108, rf V 109, rf V 110, rf V 111, rf V 112, rf V 113, rf V 114, .int (h.1 102 20), .int (h.1 102 21), .int (h.1 102 22), rf V 115, rf V 116, .int (h.1 102 25), rf V 117, rf V 118, .int (h.1 102 28), .int (h.1 102 29), rf V 119, rf V 120, rf V 121, .int (h.1 102 33), rf V 122, rf V 123, rf V 124, .int (h.1 102 37), .int (h.1 102 38), rf V 125, rf V 126, rf V 127, .int (h.1 102 42), .int (h.1 102 43), .int (h.1 102 44), .int (h.1 102 45), .int (h.1 102 46), .int (h.1 102 47), .int (h.1 102 48), .int (h.1 102 49), rf V 128, rf V 129, rf V 130, rf V 131, rf V 132, rf V 133, rf V 134, rf V 135, rf V 136, rf V 137, .int (h.1 102 60), rf V 138, rf V 139, rf V 140, rf V 141, rf V 142] : List Value).set 20 (.int x))) = WG V o (wI h 102 20 x) := wgm (by decide) rfl (fun j hj => el_rowI _ hj)
theorem u102_21 {x : Int32} : va_up (WG V o h) 102 (.inr (10, ([.int (h.1 102 0), .int (h.1 102 1), .int (h.1 102 2), rf V 103, rf V 104, rf V 105, rf V 106, .int (h.1 102 7), .int (h.1 102 8), .int (h.1 102 9), .int (h.1 102 10), .int (h.1 102 11), rf V 107, rf V 108, rf V 109, rf V 110, rf V 111, rf V 112, rf V 113, rf V 114, .int (h.1 102 20), .int (h.1 102 21), .int (h.1 102 22), rf V 115, rf V 116, .int (h.1 102 25), rf V 117, rf V 118, .int (h.1 102 28), .int (h.1 102 29), rf V 119, rf V 120, rf V 121, .int (h.1 102 33), rf V 122, rf V 123, rf V 124, .int (h.1 102 37), .int (h.1 102 38), rf V 125, rf V 126, rf V 127, .int (h.1 102 42), .int (h.1 102 43), .int (h.1 102 44), .int (h.1 102 45), .int (h.1 102 46), .int (h.1 102 47), .int (h.1 102 48), .int (h.1 102 49), rf V 128, rf V 129, rf V 130, rf V 131, rf V 132, rf V 133, rf V 134, rf V 135, rf V 136, rf V 137, .int (h.1 102 60), rf V 138, rf V 139, rf V 140, rf V 141, rf V 142] : List Value).set 21 (.int x))) = WG V o (wI h 102 21 x) := wgm (by decide) rfl (fun j hj => el_rowI _ hj)
theorem u102_22 {x : Int32} : va_up (WG V o h) 102 (.inr (10, ([.int (h.1 102 0), .int (h.1 102 1), .int (h.1 102 2), rf V 103, rf V 104, rf V 105, rf V 106, .int (h.1 102 7), .int (h.1 102 8), .int (h.1 102 9), .int (h.1 102 10), .int (h.1 102 11), rf V 107, rf V 108, rf V 109, rf V 110, rf V 111, rf V 112, rf V 113, rf V 114, .int (h.1 102 20), .int (h.1 102 21), .int (h.1 102 22), rf V 115, rf V 116, .int (h.1 102 25), rf V 117, rf V 118, .int (h.1 102 28), .int (h.1 102 29), rf V 119, rf V 120, rf V 121, .int (h.1 102 33), rf V 122, rf V 123, rf V 124, .int (h.1 102 37), .int (h.1 102 38), rf V 125, rf V 126, rf V 127, .int (h.1 102 42), .int (h.1 102 43), .int (h.1 102 44), .int (h.1 102 45), .int (h.1 102 46), .int (h.1 102 47), .int (h.1 102 48), .int (h.1 102 49), rf V 128, rf V 129, rf V 130, rf V 131, rf V 132, rf V 133, rf V 134, rf V 135, rf V 136, rf V 137, .int (h.1 102 60), rf V 138, rf V 139, rf V 140, rf V 141, rf V 142] : List Value).set 22 (.int x))) = WG V o (wI h 102 22 x) := wgm (by decide) rfl (fun j hj => el_rowI _ hj)
theorem u102_25 {x : Int32} : va_up (WG V o h) 102 (.inr (10, ([.int (h.1 102 0), .int (h.1 102 1), .int (h.1 102 2), rf V 103, rf V 104, rf V 105, rf V 106, .int (h.1 102 7), .int (h.1 102 8), .int (h.1 102 9), .int (h.1 102 10), .int (h.1 102 11), rf V 107, rf V 108, rf V 109, rf V 110, rf V 111, rf V 112, rf V 113, rf V 114, .int (h.1 102 20), .int (h.1 102 21), .int (h.1 102 22), rf V 115, rf V 116, .int (h.1 102 25), rf V 117, rf V 118, .int (h.1 102 28), .int (h.1 102 29), rf V 119, rf V 120, rf V 121, .int (h.1 102 33), rf V 122, rf V 123, rf V 124, .int (h.1 102 37), .int (h.1 102 38), rf V 125, rf V 126, rf V 127, .int (h.1 102 42), .int (h.1 102 43), .int (h.1 102 44), .int (h.1 102 45), .int (h.1 102 46), .int (h.1 102 47), .int (h.1 102 48), .int (h.1 102 49), rf V 128, rf V 129, rf V 130, rf V 131, rf V 132, rf V 133, rf V 134, rf V 135, rf V 136, rf V 137, .int (h.1 102 60), rf V 138, rf V 139, rf V 140, rf V 141, rf V 142] : List Value).set 25 (.int x))) = WG V o (wI h 102 25 x) := wgm (by decide) rfl (fun j hj => el_rowI _ hj)
theorem u102_28 {x : Int32} : va_up (WG V o h) 102 (.inr (10, ([.int (h.1 102 0), .int (h.1 102 1), .int (h.1 102 2), rf V 103, rf V 104, rf V 105, rf V 106, .int (h.1 102 7), .int (h.1 102 8), .int (h.1 102 9), .int (h.1 102 10), .int (h.1 102 11), rf V 107, rf V 108, rf V 109, rf V 110, rf V 111, rf V 112, rf V 113, rf V 114, .int (h.1 102 20), .int (h.1 102 21), .int (h.1 102 22), rf V 115, rf V 116, .int (h.1 102 25), rf V 117, rf V 118, .int (h.1 102 28), .int (h.1 102 29), rf V 119, rf V 120, rf V 121, .int (h.1 102 33), rf V 122, rf V 123, rf V 124, .int (h.1 102 37), .int (h.1 102 38), rf V 125, rf V 126, rf V 127, .int (h.1 102 42), .int (h.1 102 43), .int (h.1 102 44), .int (h.1 102 45), .int (h.1 102 46), .int (h.1 102 47), .int (h.1 102 48), .int (h.1 102 49), rf V 128, rf V 129, rf V 130, rf V 131, rf V 132, rf V 133, rf V 134, rf V 135, rf V 136, rf V 137, .int (h.1 102 60), rf V 138, rf V 139, rf V 140, rf V 141, rf V 142] : List Value).set 28 (.int x))) = WG V o (wI h 102 28 x) := wgm (by decide) rfl (fun j hj => el_rowI _ hj)
theorem u102_29 {x : Int32} : va_up (WG V o h) 102 (.inr (10, ([.int (h.1 102 0), .int (h.1 102 1), .int (h.1 102 2), rf V 103, rf V 104, rf V 105, rf V 106, .int (h.1 102 7), .int (h.1 102 8), .int (h.1 102 9), .int (h.1 102 10), .int (h.1 102 11), rf V 107, rf V 108, rf V 109, rf V 110, rf V 111, rf V 112, rf V 113, rf V 114, .int (h.1 102 20), .int (h.1 102 21), .int (h.1 102 22), rf V 115, rf V 116, .int (h.1 102 25), rf V 117, rf V 118, .int (h.1 102 28), .int (h.1 102 29), rf V 119, rf V 120, rf V 121, .int (h.1 102 33), rf V 122, rf V 123, rf V 124, .int (h.1 102 37), .int (h.1 102 38), rf V 125, rf V 126, rf V 127, .int (h.1 102 42), .int (h.1 102 43), .int (h.1 102 44), .int (h.1 102 45), .int (h.1 102 46), .int (h.1 102 47), .int (h.1 102 48), .int (h.1 102 49), rf V 128, rf V 129, rf V 130, rf V 131, rf V 132, rf V 133, rf V 134, rf V 135, rf V 136, rf V 137, .int (h.1 102 60), rf V 138, rf V 139, rf V 140, rf V 141, rf V 142] : List Value).set 29 (.int x))) = WG V o (wI h 102 29 x) := wgm (by decide) rfl (fun j hj => el_rowI _ hj)
theorem u102_33 {x : Int32} : va_up (WG V o h) 102 (.inr (10, ([.int (h.1 102 0), .int (h.1 102 1), .int (h.1 102 2), rf V 103, rf V 104, rf V 105, rf V 106, .int (h.1 102 7), .int (h.1 102 8), .int (h.1 102 9), .int (h.1 102 10), .int (h.1 102 11), rf V 107, rf V 108, rf V 109, rf V 110, rf V 111, rf V 112, rf V 113, rf V 114, .int (h.1 102 20), .int (h.1 102 21), .int (h.1 102 22), rf V 115, rf V 116, .int (h.1 102 25), rf V 117, rf V 118, .int (h.1 102 28), .int (h.1 102 29), rf V 119, rf V 120, rf V 121, .int (h.1 102 33), rf V 122, rf V 123, rf V 124, .int (h.1 102 37), .int (h.1 102 38), rf V 125, rf V 126, rf V 127, .int (h.1 102 42), .int (h.1 102 43), .int (h.1 102 44), .int (h.1 102 45), .int (h.1 102 46), .int (h.1 102 47), .int (h.1 102 48), .int (h.1 102 49), rf V 128, rf V 129, rf V 130, rf V 131, rf V 132, rf V 133, rf V 134, rf V 135, rf V 136, rf V 137, .int (h.1 102 60), rf V 138, rf V 139, rf V 140, rf V 141, rf V 142] : List Value).set 33 (.int x))) = WG V o (wI h 102 33 x) := wgm (by decide) rfl (fun j hj => el_rowI _ hj)
theorem u102_37 {x : Int32} : va_up (WG V o h) 102 (.inr (10, ([.int (h.1 102 0), .int (h.1 102 1), .int (h.1 102 2), rf V 103, rf V 104, rf V 105, rf V 106, .int (h.1 102 7), .int (h.1 102 8), .int (h.1 102 9), .int (h.1 102 10), .int (h.1 102 11), rf V 107, rf V 108, rf V 109, rf V 110, rf V 111, rf V 112, rf V 113, rf V 114, .int (h.1 102 20), .int (h.1 102 21), .int (h.1 102 22), rf V 115, rf V 116, .int (h.1 102 25), rf V 117, rf V 118, .int (h.1 102 28), .int (h.1 102 29), rf V 119, rf V 120, rf V 121, .int (h.1 102 33), rf V 122, rf V 123, rf V 124, .int (h.1 102 37), .int (h.1 102 38), rf V 125, rf V 126, rf V 127, .int (h.1 102 42), .int (h.1 102 43), .int (h.1 102 44), .int (h.1 102 45), .int (h.1 102 46), .int (h.1 102 47), .int (h.1 102 48), .int (h.1 102 49), rf V 128, rf V 129, rf V 130, rf V 131, rf V 132, rf V 133, rf V 134, rf V 135, rf V 136, rf V 137, .int (h.1 102 60), rf V 138, rf V 139, rf V 140, rf V 141, rf V 142] : List Value).set 37 (.int x))) = WG V o (wI h 102 37 x) := wgm (by decide) rfl (fun j hj => el_rowI _ hj)
theorem u102_38 {x : Int32} : va_up (WG V o h) 102 (.inr (10, ([.int (h.1 102 0), .int (h.1 102 1), .int (h.1 102 2), rf V 103, rf V 104, rf V 105, rf V 106, .int (h.1 102 7), .int (h.1 102 8), .int (h.1 102 9), .int (h.1 102 10), .int (h.1 102 11), rf V 107, rf V 108, rf V 109, rf V 110, rf V 111, rf V 112, rf V 113, rf V 114, .int (h.1 102 20), .int (h.1 102 21), .int (h.1 102 22), rf V 115, rf V 116, .int (h.1 102 25), rf V 117, rf V 118, .int (h.1 102 28), .int (h.1 102 29), rf V 119, rf V 120, rf V 121, .int (h.1 102 33), rf V 122, rf V 123, rf V 124, .int (h.1 102 37), .int (h.1 102 38), rf V 125, rf V 126, rf V 127, .int (h.1 102 42), .int (h.1 102 43), .int (h.1 102 44), .int (h.1 102 45), .int (h.1 102 46), .int (h.1 102 47), .int (h.1 102 48), .int (h.1 102 49), rf V 128, rf V 129, rf V 130, rf V 131, rf V 132, rf V 133, rf V 134, rf V 135, rf V 136, rf V 137, .int (h.1 102 60), rf V 138, rf V 139, rf V 140, rf V 141, rf V 142] : List Value).set 38 (.int x))) = WG V o (wI h 102 38 x) := wgm (by decide) rfl (fun j hj => el_rowI _ hj)
theorem u102_42 {x : Int32} : va_up (WG V o h) 102 (.inr (10, ([.int (h.1 102 0), .int (h.1 102 1), .int (h.1 102 2), rf V 103, rf V 104, rf V 105, rf V 106, .int (h.1 102 7), .int (h.1 102 8), .int (h.1 102 9), .int (h.1 102 10), .int (h.1 102 11), rf V 107, rf V 108, rf V 109, rf V 110, rf V 111, rf V 112, rf V 113, rf V 114, .int (h.1 102 20), .int (h.1 102 21), .int (h.1 102 22), rf V 115, rf V 116, .int (h.1 102 25), rf V 117, rf V 118, .int (h.1 102 28), .int (h.1 102 29), rf V 119, rf V 120, rf V 121, .int (h.1 102 33), rf V 122, rf V 123, rf V 124, .int (h.1 102 37), .int (h.1 102 38), rf V 125, rf V 126, rf V 127, .int (h.1 102 42), .int (h.1 102 43), .int (h.1 102 44), .int (h.1 102 45), .int (h.1 102 46), .int (h.1 102 47), .int (h.1 102 48), .int (h.1 102 49), rf V 128, rf V 129, rf V 130, rf V 131, rf V 132, rf V 133, rf V 134, rf V 135, rf V 136, rf V 137, .int (h.1 102 60), rf V 138, rf V 139, rf V 140, rf V 141, rf V 142] : List Value).set 42 (.int x))) = WG V o (wI h 102 42 x) := wgm (by decide) rfl (fun j hj => el_rowI _ hj)
theorem u102_43 {x : Int32} : va_up (WG V o h) 102 (.inr (10, ([.int (h.1 102 0), .int (h.1 102 1), .int (h.1 102 2), rf V 103, rf V 104, rf V 105, rf V 106, .int (h.1 102 7), .int (h.1 102 8), .int (h.1 102 9), .int (h.1 102 10), .int (h.1 102 11), rf V 107, rf V 108, rf V 109, rf V 110, rf V 111, rf V 112, rf V 113, rf V 114, .int (h.1 102 20), .int (h.1 102 21), .int (h.1 102 22), rf V 115, rf V 116, .int (h.1 102 25), rf V 117, rf V 118, .int (h.1 102 28), .int (h.1 102 29), rf V 119, rf V 120, rf V 121, .int (h.1 102 33), rf V 122, rf V 123, rf V 124, .int (h.1 102 37), .int (h.1 102 38), rf V 125, rf V 126, rf V 127, .int (h.1 102 42), .int (h.1 102 43), .int (h.1 102 44), .int (h.1 102 45), .int (h.1 102 46), .int (h.1 102 47), .int (h.1 102 48), .int (h.1 102 49), rf V 128, rf V 129, rf V 130, rf V 131, rf V 132, rf V 133, rf V 134, rf V 135, rf V 136, rf V 137, .int (h.1 102 60), rf V 138, rf V 139, rf V 140, rf V 141, rf V 142] : List Value).set 43 (.int x))) = WG V o (wI h 102 43 x) := wgm (by decide) rfl (fun j hj => el_rowI _ hj)
theorem u102_44 {x : Int32} : va_up (WG V o h) 102 (.inr (10, ([.int (h.1 102 0), .int (h.1 102 1), .int (h.1 102 2), rf V 103, rf V 104, rf V 105, rf V 106, .int (h.1 102 7), .int (h.1 102 8), .int (h.1 102 9), .int (h.1 102 10), .int (h.1 102 11), rf V 107, rf V 108, rf V 109, rf V 110, rf V 111, rf V 112, rf V 113, rf V 114, .int (h.1 102 20), .int (h.1 102 21), .int (h.1 102 22), rf V 115, rf V 116, .int (h.1 102 25), rf V 117, rf V 118, .int (h.1 102 28), .int (h.1 102 29), rf V 119, rf V 120, rf V 121, .int (h.1 102 33), rf V 122, rf V 123, rf V 124, .int (h.1 102 37), .int (h.1 102 38), rf V 125, rf V 126, rf V 127, .int (h.1 102 42), .int (h.1 102 43), .int (h.1 102 44), .int (h.1 102 45), .int (h.1 102 46), .int (h.1 102 47), .int (h.1 102 48), .int (h.1 102 49), rf V 128, rf V 129, rf V 130, rf V 131, rf V 132, rf V 133, rf V 134, rf V 135, rf V 136, rf V 137, .int (h.1 102 60), rf V 138, rf V 139, rf V 140, rf V 141, rf V 142] : List Value).set 44 (.int x))) = WG V o (wI h 102 44 x) := wgm (by decide) rfl (fun j hj => el_rowI _ hj)
theorem u102_45 {x : Int32} : va_up (WG V o h) 102 (.inr (10, ([.int (h.1 102 0), .int (h.1 102 1), .int (h.1 102 2), rf V 103, rf V 104, rf V 105, rf V 106, .int (h.1 102 7), .int (h.1 102 8), .int (h.1 102 9), .int (h.1 102 10), .int (h.1 102 11), rf V 107, rf V 108, rf V 109, rf V 110, rf V 111, rf V 112, rf V 113, rf V 114, .int (h.1 102 20), .int (h.1 102 21), .int (h.1 102 22), rf V 115, rf V 116, .int (h.1 102 25), rf V 117, rf V 118, .int (h.1 102 28), .int (h.1 102 29), rf V 119, rf V 120, rf V 121, .int (h.1 102 33), rf V 122, rf V 123, rf V 124, .int (h.1 102 37), .int (h.1 102 38), rf V 125, rf V 126, rf V 127, .int (h.1 102 42), .int (h.1 102 43), .int (h.1 102 44), .int (h.1 102 45), .int (h.1 102 46), .int (h.1 102 47), .int (h.1 102 48), .int (h.1 102 49), rf V 128, rf V 129, rf V 130, rf V 131, rf V 132, rf V 133, rf V 134, rf V 135, rf V 136, rf V 137, .int (h.1 102 60), rf V 138, rf V 139, rf V 140, rf V 141, rf V 142] : List Value).set 45 (.int x))) = WG V o (wI h 102 45 x) := wgm (by decide) rfl (fun j hj => el_rowI _ hj)
theorem u102_46 {x : Int32} : va_up (WG V o h) 102 (.inr (10, ([.int (h.1 102 0), .int (h.1 102 1), .int (h.1 102 2), rf V 103, rf V 104, rf V 105, rf V 106, .int (h.1 102 7), .int (h.1 102 8), .int (h.1 102 9), .int (h.1 102 10), .int (h.1 102 11), rf V 107, rf V 108, rf V 109, rf V 110, rf V 111, rf V 112, rf V 113, rf V 114, .int (h.1 102 20), .int (h.1 102 21), .int (h.1 102 22), rf V 115, rf V 116, .int (h.1 102 25), rf V 117, rf V 118, .int (h.1 102 28), .int (h.1 102 29), rf V 119, rf V 120, rf V 121, .int (h.1 102 33), rf V 122, rf V 123, rf V 124, .int (h.1 102 37), .int (h.1 102 38), rf V 125, rf V 126, rf V 127, .int (h.1 102 42), .int (h.1 102 43), .int (h.1 102 44), .int (h.1 102 45), .int (h.1 102 46), .int (h.1 102 47), .int (h.1 102 48), .int (h.1 102 49), rf V 128, rf V 129, rf V 130, rf V 131, rf V 132, rf V 133, rf V 134, rf V 135, rf V 136, rf V 137, .int (h.1 102 60), rf V 138, rf V 139, rf V 140, rf V 141, rf V 142] : List Value).set 46 (.int x))) = WG V o (wI h 102 46 x) := wgm (by decide) rfl (fun j hj => el_rowI _ hj)
theorem u102_47 {x : Int32} : va_up (WG V o h) 102 (.inr (10, ([.int (h.1 102 0), .int (h.1 102 1), .int (h.1 102 2), rf V 103, rf V 104, rf V 105, rf V 106, .int (h.1 102 7), .int (h.1 102 8), .int (h.1 102 9), .int (h.1 102 10), .int (h.1 102 11), rf V 107, rf V 108, rf V 109, rf V 110, rf V 111, rf V 112, rf V 113, rf V 114, .int (h.1 102 20), .int (h.1 102 21), .int (h.1 102 22), rf V 115, rf V 116, .int (h.1 102 25), rf V 117, rf V 118, .int (h.1 102 28), .int (h.1 102 29), rf V 119, rf V 120, rf V 121, .int (h.1 102 33), rf V 122, rf V 123, rf V 124, .int (h.1 102 37), .int (h.1 102 38), rf V 125, rf V 126, rf V 127, .int (h.1 102 42), .int (h.1 102 43), .int (h.1 102 44), .int (h.1 102 45), .int (h.1 102 46), .int (h.1 102 47), .int (h.1 102 48), .int (h.1 102 49), rf V 128, rf V 129, rf V 130, rf V 131, rf V 132, rf V 133, rf V 134, rf V 135, rf V 136, rf V 137, .int (h.1 102 60), rf V 138, rf V 139, rf V 140, rf V 141, rf V 142] : List Value).set 47 (.int x))) = WG V o (wI h 102 47 x) := wgm (by decide) rfl (fun j hj => el_rowI _ hj)
theorem u102_48 {x : Int32} : va_up (WG V o h) 102 (.inr (10, ([.int (h.1 102 0), .int (h.1 102 1), .int (h.1 102 2), rf V 103, rf V 104, rf V 105, rf V 106, .int (h.1 102 7), .int (h.1 102 8), .int (h.1 102 9), .int (h.1 102 10), .int (h.1 102 11), rf V 107, rf V 108, rf V 109, rf V 110, rf V 111, rf V 112, rf V 113, rf V 114, .int (h.1 102 20), .int (h.1 102 21), .int (h.1 102 22), rf V 115, rf V 116, .int (h.1 102 25), rf V 117, rf V 118, .int (h.1 102 28), .int (h.1 102 29), rf V 119, rf V 120, rf V 121, .int (h.1 102 33), rf V 122, rf V 123, rf V 124, .int (h.1 102 37), .int (h.1 102 38), rf V 125, rf V 126, rf V 127, .int (h.1 102 42), .int (h.1 102 43), .int (h.1 102 44), .int (h.1 102 45), .int (h.1 102 46), .int (h.1 102 47), .int (h.1 102 48), .int (h.1 102 49), rf V 128, rf V 129, rf V 130, rf V 131, rf V 132, rf V 133, rf V 134, rf V 135, rf V 136, rf V 137, .int (h.1 102 60), rf V 138, rf V 139, rf V 140, rf V 141, rf V 142] : List Value).set 48 (.int x))) = WG V o (wI h 102 48 x) := wgm (by decide) rfl (fun j hj => el_rowI _ hj)
theorem u102_49 {x : Int32} : va_up (WG V o h) 102 (.inr (10, ([.int (h.1 102 0), .int (h.1 102 1), .int (h.1 102 2), rf V 103, rf V 104, rf V 105, rf V 106, .int (h.1 102 7), .int (h.1 102 8), .int (h.1 102 9), .int (h.1 102 10), .int (h.1 102 11), rf V 107, rf V 108, rf V 109, rf V 110, rf V 111, rf V 112, rf V 113, rf V 114, .int (h.1 102 20), .int (h.1 102 21), .int (h.1 102 22), rf V 115, rf V 116, .int (h.1 102 25), rf V 117, rf V 118, .int (h.1 102 28), .int (h.1 102 29), rf V 119, rf V 120, rf V 121, .int (h.1 102 33), rf V 122, rf V 123, rf V 124, .int (h.1 102 37), .int (h.1 102 38), rf V 125, rf V 126, rf V 127, .int (h.1 102 42), .int (h.1 102 43), .int (h.1 102 44), .int (h.1 102 45), .int (h.1 102 46), .int (h.1 102 47), .int (h.1 102 48), .int (h.1 102 49), rf V 128, rf V 129, rf V 130, rf V 131, rf V 132, rf V 133, rf V 134, rf V 135, rf V 136, rf V 137, .int (h.1 102 60), rf V 138, rf V 139, rf V 140, rf V 141, rf V 142] : List Value).set 49 (.int x))) = WG V o (wI h 102 49 x) := wgm (by decide) rfl (fun j hj => el_rowI _ hj)
theorem u102_60 {x : Int32} : va_up (WG V o h) 102 (.inr (10, ([.int (h.1 102 0), .int (h.1 102 1), .int (h.1 102 2), rf V 103, rf V 104, rf V 105, rf V 106, .int (h.1 102 7), .int (h.1 102 8), .int (h.1 102 9), .int (h.1 102 10), .int (h.1 102 11), rf V 107, rf V 108, rf V 109, rf V 110, rf V 111, rf V 112, rf V 113, rf V 114, .int (h.1 102 20), .int (h.1 102 21), .int (h.1 102 22), rf V 115, rf V 116, .int (h.1 102 25), rf V 117, rf V 118, .int (h.1 102 28), .int (h.1 102 29), rf V 119, rf V 120, rf V 121, .int (h.1 102 33), rf V 122, rf V 123, rf V 124, .int (h.1 102 37), .int (h.1 102 38), rf V 125, rf V 126, rf V 127, .int (h.1 102 42), .int (h.1 102 43), .int (h.1 102 44), .int (h.1 102 45), .int (h.1 102 46), .int (h.1 102 47), .int (h.1 102 48), .int (h.1 102 49), rf V 128, rf V 129, rf V 130, rf V 131, rf V 132, rf V 133, rf V 134, rf V 135, rf V 136, rf V 137, .int (h.1 102 60), rf V 138, rf V 139, rf V 140, rf V 141, rf V 142] : List Value).set 60 (.int x))) = WG V o (wI h 102 60 x) := wgm (by decide) rfl (fun j hj => el_rowI _ hj)
theorem g103 : WG V o h 103 = .inl (V.2.1 1, 6, .inl (h.1 103)) := wm_at (by decide) rfl
theorem u103 {i : Nat} {x : Int32} : va_up (WG V o h) 103 (.inl (V.2.1 1, 6, .inl (upd (h.1 103) i x))) = WG V o (wI h 103 i x) := wgm (by decide) rfl (fun j hj => el_rowI _ hj)
theorem uf103 {f : Nat → Int32} : va_up (WG V o h) 103 (.inl (V.2.1 1, 6, .inl f)) = WG V o (rowI h 103 f) := wgm (by decide) rfl (fun j hj => el_rowI _ hj)
theorem g104 : WG V o h 104 = .inl (V.2.1 1, 6, .inl (h.1 104)) := wm_at (by decide) rfl
theorem u104 {i : Nat} {x : Int32} : va_up (WG V o h) 104 (.inl (V.2.1 1, 6, .inl (upd (h.1 104) i x))) = WG V o (wI h 104 i x) := wgm (by decide) rfl (fun j hj => el_rowI _ hj)
theorem uf104 {f : Nat → Int32} : va_up (WG V o h) 104 (.inl (V.2.1 1, 6, .inl f)) = WG V o (rowI h 104 f) := wgm (by decide) rfl (fun j hj => el_rowI _ hj)
theorem g105 : WG V o h 105 = .inl (V.2.1 1, 6, .inl (h.1 105)) := wm_at (by decide) rfl
theorem u105 {i : Nat} {x : Int32} : va_up (WG V o h) 105 (.inl (V.2.1 1, 6, .inl (upd (h.1 105) i x))) = WG V o (wI h 105 i x) := wgm (by decide) rfl (fun j hj => el_rowI _ hj)
theorem uf105 {f : Nat → Int32} : va_up (WG V o h) 105 (.inl (V.2.1 1, 6, .inl f)) = WG V o (rowI h 105 f) := wgm (by decide) rfl (fun j hj => el_rowI _ hj)
theorem g106 : WG V o h 106 = .inl (V.2.1 1, 24, .inl (h.1 106)) := wm_at (by decide) rfl
theorem u106 {i : Nat} {x : Int32} : va_up (WG V o h) 106 (.inl (V.2.1 1, 24, .inl (upd (h.1 106) i x))) = WG V o (wI h 106 i x) := wgm (by decide) rfl (fun j hj => el_rowI _ hj)
theorem uf106 {f : Nat → Int32} : va_up (WG V o h) 106 (.inl (V.2.1 1, 24, .inl f)) = WG V o (rowI h 106 f) := wgm (by decide) rfl (fun j hj => el_rowI _ hj)
theorem g107 : WG V o h 107 = .inl (V.2.1 1, 100, .inl (h.1 107)) := wm_at (by decide) rfl
theorem u107 {i : Nat} {x : Int32} : va_up (WG V o h) 107 (.inl (V.2.1 1, 100, .inl (upd (h.1 107) i x))) = WG V o (wI h 107 i x) := wgm (by decide) rfl (fun j hj => el_rowI _ hj)
theorem uf107 {f : Nat → Int32} : va_up (WG V o h) 107 (.inl (V.2.1 1, 100, .inl f)) = WG V o (rowI h 107 f) := wgm (by decide) rfl (fun j hj => el_rowI _ hj)
theorem g108 : WG V o h 108 = .inl (V.2.1 1, 6, .inl (h.1 108)) := wm_at (by decide) rfl
theorem u108 {i : Nat} {x : Int32} : va_up (WG V o h) 108 (.inl (V.2.1 1, 6, .inl (upd (h.1 108) i x))) = WG V o (wI h 108 i x) := wgm (by decide) rfl (fun j hj => el_rowI _ hj)
theorem uf108 {f : Nat → Int32} : va_up (WG V o h) 108 (.inl (V.2.1 1, 6, .inl f)) = WG V o (rowI h 108 f) := wgm (by decide) rfl (fun j hj => el_rowI _ hj)
theorem g109 : WG V o h 109 = .inl (V.2.1 1, 60, .inl (h.1 109)) := wm_at (by decide) rfl
theorem u109 {i : Nat} {x : Int32} : va_up (WG V o h) 109 (.inl (V.2.1 1, 60, .inl (upd (h.1 109) i x))) = WG V o (wI h 109 i x) := wgm (by decide) rfl (fun j hj => el_rowI _ hj)
theorem uf109 {f : Nat → Int32} : va_up (WG V o h) 109 (.inl (V.2.1 1, 60, .inl f)) = WG V o (rowI h 109 f) := wgm (by decide) rfl (fun j hj => el_rowI _ hj)
theorem g110 : WG V o h 110 = .inl (V.2.1 1, 60, .inl (h.1 110)) := wm_at (by decide) rfl
theorem u110 {i : Nat} {x : Int32} : va_up (WG V o h) 110 (.inl (V.2.1 1, 60, .inl (upd (h.1 110) i x))) = WG V o (wI h 110 i x) := wgm (by decide) rfl (fun j hj => el_rowI _ hj)
theorem uf110 {f : Nat → Int32} : va_up (WG V o h) 110 (.inl (V.2.1 1, 60, .inl f)) = WG V o (rowI h 110 f) := wgm (by decide) rfl (fun j hj => el_rowI _ hj)
theorem g111 : WG V o h 111 = .inl (V.2.1 1, 60, .inl (h.1 111)) := wm_at (by decide) rfl
theorem u111 {i : Nat} {x : Int32} : va_up (WG V o h) 111 (.inl (V.2.1 1, 60, .inl (upd (h.1 111) i x))) = WG V o (wI h 111 i x) := wgm (by decide) rfl (fun j hj => el_rowI _ hj)
theorem uf111 {f : Nat → Int32} : va_up (WG V o h) 111 (.inl (V.2.1 1, 60, .inl f)) = WG V o (rowI h 111 f) := wgm (by decide) rfl (fun j hj => el_rowI _ hj)
theorem g112 : WG V o h 112 = .inl (V.2.1 1, 60, .inl (h.1 112)) := wm_at (by decide) rfl
theorem u112 {i : Nat} {x : Int32} : va_up (WG V o h) 112 (.inl (V.2.1 1, 60, .inl (upd (h.1 112) i x))) = WG V o (wI h 112 i x) := wgm (by decide) rfl (fun j hj => el_rowI _ hj)
theorem uf112 {f : Nat → Int32} : va_up (WG V o h) 112 (.inl (V.2.1 1, 60, .inl f)) = WG V o (rowI h 112 f) := wgm (by decide) rfl (fun j hj => el_rowI _ hj)
theorem g113 : WG V o h 113 = .inl (V.2.1 1, 600, .inl (h.1 113)) := wm_at (by decide) rfl
theorem u113 {i : Nat} {x : Int32} : va_up (WG V o h) 113 (.inl (V.2.1 1, 600, .inl (upd (h.1 113) i x))) = WG V o (wI h 113 i x) := wgm (by decide) rfl (fun j hj => el_rowI _ hj)
theorem uf113 {f : Nat → Int32} : va_up (WG V o h) 113 (.inl (V.2.1 1, 600, .inl f)) = WG V o (rowI h 113 f) := wgm (by decide) rfl (fun j hj => el_rowI _ hj)
theorem g114 : WG V o h 114 = .inl (V.2.1 1, 101, .inl (h.1 114)) := wm_at (by decide) rfl
theorem u114 {i : Nat} {x : Int32} : va_up (WG V o h) 114 (.inl (V.2.1 1, 101, .inl (upd (h.1 114) i x))) = WG V o (wI h 114 i x) := wgm (by decide) rfl (fun j hj => el_rowI _ hj)
theorem uf114 {f : Nat → Int32} : va_up (WG V o h) 114 (.inl (V.2.1 1, 101, .inl f)) = WG V o (rowI h 114 f) := wgm (by decide) rfl (fun j hj => el_rowI _ hj)
theorem g115 : WG V o h 115 = .inl (V.2.1 1, 12, .inl (h.1 115)) := wm_at (by decide) rfl
theorem u115 {i : Nat} {x : Int32} : va_up (WG V o h) 115 (.inl (V.2.1 1, 12, .inl (upd (h.1 115) i x))) = WG V o (wI h 115 i x) := wgm (by decide) rfl (fun j hj => el_rowI _ hj)
theorem uf115 {f : Nat → Int32} : va_up (WG V o h) 115 (.inl (V.2.1 1, 12, .inl f)) = WG V o (rowI h 115 f) := wgm (by decide) rfl (fun j hj => el_rowI _ hj)
theorem g116 : WG V o h 116 = .inl (V.2.1 3, 100, .inl (h.1 116)) := wm_at (by decide) rfl
theorem u116 {i : Nat} {x : Int32} : va_up (WG V o h) 116 (.inl (V.2.1 3, 100, .inl (upd (h.1 116) i x))) = WG V o (wI h 116 i x) := wgm (by decide) rfl (fun j hj => el_rowI _ hj)
theorem uf116 {f : Nat → Int32} : va_up (WG V o h) 116 (.inl (V.2.1 3, 100, .inl f)) = WG V o (rowI h 116 f) := wgm (by decide) rfl (fun j hj => el_rowI _ hj)
theorem g117 : WG V o h 117 = .inl (V.2.1 1, 4800, .inl (h.1 117)) := wm_at (by decide) rfl
theorem u117 {i : Nat} {x : Int32} : va_up (WG V o h) 117 (.inl (V.2.1 1, 4800, .inl (upd (h.1 117) i x))) = WG V o (wI h 117 i x) := wgm (by decide) rfl (fun j hj => el_rowI _ hj)
theorem uf117 {f : Nat → Int32} : va_up (WG V o h) 117 (.inl (V.2.1 1, 4800, .inl f)) = WG V o (rowI h 117 f) := wgm (by decide) rfl (fun j hj => el_rowI _ hj)
theorem g118 : WG V o h 118 = .inl (V.2.1 1, 6, .inl (h.1 118)) := wm_at (by decide) rfl
theorem u118 {i : Nat} {x : Int32} : va_up (WG V o h) 118 (.inl (V.2.1 1, 6, .inl (upd (h.1 118) i x))) = WG V o (wI h 118 i x) := wgm (by decide) rfl (fun j hj => el_rowI _ hj)
theorem uf118 {f : Nat → Int32} : va_up (WG V o h) 118 (.inl (V.2.1 1, 6, .inl f)) = WG V o (rowI h 118 f) := wgm (by decide) rfl (fun j hj => el_rowI _ hj)
theorem g119 : WG V o h 119 = .inl (V.2.1 1, 6, .inl (h.1 119)) := wm_at (by decide) rfl
theorem u119 {i : Nat} {x : Int32} : va_up (WG V o h) 119 (.inl (V.2.1 1, 6, .inl (upd (h.1 119) i x))) = WG V o (wI h 119 i x) := wgm (by decide) rfl (fun j hj => el_rowI _ hj)
theorem uf119 {f : Nat → Int32} : va_up (WG V o h) 119 (.inl (V.2.1 1, 6, .inl f)) = WG V o (rowI h 119 f) := wgm (by decide) rfl (fun j hj => el_rowI _ hj)
theorem g120 : WG V o h 120 = .inl (V.2.1 1, 6, .inl (h.1 120)) := wm_at (by decide) rfl
theorem u120 {i : Nat} {x : Int32} : va_up (WG V o h) 120 (.inl (V.2.1 1, 6, .inl (upd (h.1 120) i x))) = WG V o (wI h 120 i x) := wgm (by decide) rfl (fun j hj => el_rowI _ hj)
theorem uf120 {f : Nat → Int32} : va_up (WG V o h) 120 (.inl (V.2.1 1, 6, .inl f)) = WG V o (rowI h 120 f) := wgm (by decide) rfl (fun j hj => el_rowI _ hj)
theorem g121 : WG V o h 121 = .inl (V.2.1 1, 6, .inl (h.1 121)) := wm_at (by decide) rfl
theorem u121 {i : Nat} {x : Int32} : va_up (WG V o h) 121 (.inl (V.2.1 1, 6, .inl (upd (h.1 121) i x))) = WG V o (wI h 121 i x) := wgm (by decide) rfl (fun j hj => el_rowI _ hj)
theorem uf121 {f : Nat → Int32} : va_up (WG V o h) 121 (.inl (V.2.1 1, 6, .inl f)) = WG V o (rowI h 121 f) := wgm (by decide) rfl (fun j hj => el_rowI _ hj)
theorem g122 : WG V o h 122 = .inl (V.2.1 1, 5, .inl (h.1 122)) := wm_at (by decide) rfl
theorem u122 {i : Nat} {x : Int32} : va_up (WG V o h) 122 (.inl (V.2.1 1, 5, .inl (upd (h.1 122) i x))) = WG V o (wI h 122 i x) := wgm (by decide) rfl (fun j hj => el_rowI _ hj)
theorem uf122 {f : Nat → Int32} : va_up (WG V o h) 122 (.inl (V.2.1 1, 5, .inl f)) = WG V o (rowI h 122 f) := wgm (by decide) rfl (fun j hj => el_rowI _ hj)
theorem g123 : WG V o h 123 = .inl (V.2.1 1, 5, .inl (h.1 123)) := wm_at (by decide) rfl
theorem u123 {i : Nat} {x : Int32} : va_up (WG V o h) 123 (.inl (V.2.1 1, 5, .inl (upd (h.1 123) i x))) = WG V o (wI h 123 i x) := wgm (by decide) rfl (fun j hj => el_rowI _ hj)
theorem uf123 {f : Nat → Int32} : va_up (WG V o h) 123 (.inl (V.2.1 1, 5, .inl f)) = WG V o (rowI h 123 f) := wgm (by decide) rfl (fun j hj => el_rowI _ hj)
theorem g124 : WG V o h 124 = .inl (V.2.1 1, 5, .inl (h.1 124)) := wm_at (by decide) rfl
theorem u124 {i : Nat} {x : Int32} : va_up (WG V o h) 124 (.inl (V.2.1 1, 5, .inl (upd (h.1 124) i x))) = WG V o (wI h 124 i x) := wgm (by decide) rfl (fun j hj => el_rowI _ hj)
theorem uf124 {f : Nat → Int32} : va_up (WG V o h) 124 (.inl (V.2.1 1, 5, .inl f)) = WG V o (rowI h 124 f) := wgm (by decide) rfl (fun j hj => el_rowI _ hj)
theorem g125 : WG V o h 125 = .inl (V.2.1 1, 10, .inl (h.1 125)) := wm_at (by decide) rfl
theorem u125 {i : Nat} {x : Int32} : va_up (WG V o h) 125 (.inl (V.2.1 1, 10, .inl (upd (h.1 125) i x))) = WG V o (wI h 125 i x) := wgm (by decide) rfl (fun j hj => el_rowI _ hj)
theorem uf125 {f : Nat → Int32} : va_up (WG V o h) 125 (.inl (V.2.1 1, 10, .inl f)) = WG V o (rowI h 125 f) := wgm (by decide) rfl (fun j hj => el_rowI _ hj)
theorem g126 : WG V o h 126 = .inl (V.2.1 1, 8, .inl (h.1 126)) := wm_at (by decide) rfl
theorem u126 {i : Nat} {x : Int32} : va_up (WG V o h) 126 (.inl (V.2.1 1, 8, .inl (upd (h.1 126) i x))) = WG V o (wI h 126 i x) := wgm (by decide) rfl (fun j hj => el_rowI _ hj)
theorem uf126 {f : Nat → Int32} : va_up (WG V o h) 126 (.inl (V.2.1 1, 8, .inl f)) = WG V o (rowI h 126 f) := wgm (by decide) rfl (fun j hj => el_rowI _ hj)
theorem g127 : WG V o h 127 = .inl (V.2.1 1, 8, .inl (h.1 127)) := wm_at (by decide) rfl
theorem u127 {i : Nat} {x : Int32} : va_up (WG V o h) 127 (.inl (V.2.1 1, 8, .inl (upd (h.1 127) i x))) = WG V o (wI h 127 i x) := wgm (by decide) rfl (fun j hj => el_rowI _ hj)
theorem uf127 {f : Nat → Int32} : va_up (WG V o h) 127 (.inl (V.2.1 1, 8, .inl f)) = WG V o (rowI h 127 f) := wgm (by decide) rfl (fun j hj => el_rowI _ hj)
theorem g128 : WG V o h 128 = .inl (V.2.1 1, 6, .inl (h.1 128)) := wm_at (by decide) rfl
theorem u128 {i : Nat} {x : Int32} : va_up (WG V o h) 128 (.inl (V.2.1 1, 6, .inl (upd (h.1 128) i x))) = WG V o (wI h 128 i x) := wgm (by decide) rfl (fun j hj => el_rowI _ hj)
theorem uf128 {f : Nat → Int32} : va_up (WG V o h) 128 (.inl (V.2.1 1, 6, .inl f)) = WG V o (rowI h 128 f) := wgm (by decide) rfl (fun j hj => el_rowI _ hj)
theorem g129 : WG V o h 129 = .inl (V.2.1 1, 6, .inl (h.1 129)) := wm_at (by decide) rfl
theorem u129 {i : Nat} {x : Int32} : va_up (WG V o h) 129 (.inl (V.2.1 1, 6, .inl (upd (h.1 129) i x))) = WG V o (wI h 129 i x) := wgm (by decide) rfl (fun j hj => el_rowI _ hj)
theorem uf129 {f : Nat → Int32} : va_up (WG V o h) 129 (.inl (V.2.1 1, 6, .inl f)) = WG V o (rowI h 129 f) := wgm (by decide) rfl (fun j hj => el_rowI _ hj)
theorem g130 : WG V o h 130 = .inl (V.2.1 1, 6, .inl (h.1 130)) := wm_at (by decide) rfl
theorem u130 {i : Nat} {x : Int32} : va_up (WG V o h) 130 (.inl (V.2.1 1, 6, .inl (upd (h.1 130) i x))) = WG V o (wI h 130 i x) := wgm (by decide) rfl (fun j hj => el_rowI _ hj)
theorem uf130 {f : Nat → Int32} : va_up (WG V o h) 130 (.inl (V.2.1 1, 6, .inl f)) = WG V o (rowI h 130 f) := wgm (by decide) rfl (fun j hj => el_rowI _ hj)
theorem g131 : WG V o h 131 = .inl (V.2.1 1, 24, .inl (h.1 131)) := wm_at (by decide) rfl
theorem u131 {i : Nat} {x : Int32} : va_up (WG V o h) 131 (.inl (V.2.1 1, 24, .inl (upd (h.1 131) i x))) = WG V o (wI h 131 i x) := wgm (by decide) rfl (fun j hj => el_rowI _ hj)
theorem uf131 {f : Nat → Int32} : va_up (WG V o h) 131 (.inl (V.2.1 1, 24, .inl f)) = WG V o (rowI h 131 f) := wgm (by decide) rfl (fun j hj => el_rowI _ hj)
theorem g132 : WG V o h 132 = .inl (V.2.1 1, 5, .inl (h.1 132)) := wm_at (by decide) rfl
theorem u132 {i : Nat} {x : Int32} : va_up (WG V o h) 132 (.inl (V.2.1 1, 5, .inl (upd (h.1 132) i x))) = WG V o (wI h 132 i x) := wgm (by decide) rfl (fun j hj => el_rowI _ hj)
theorem uf132 {f : Nat → Int32} : va_up (WG V o h) 132 (.inl (V.2.1 1, 5, .inl f)) = WG V o (rowI h 132 f) := wgm (by decide) rfl (fun j hj => el_rowI _ hj)
theorem g133 : WG V o h 133 = .inl (V.2.1 1, 5, .inl (h.1 133)) := wm_at (by decide) rfl
theorem u133 {i : Nat} {x : Int32} : va_up (WG V o h) 133 (.inl (V.2.1 1, 5, .inl (upd (h.1 133) i x))) = WG V o (wI h 133 i x) := wgm (by decide) rfl (fun j hj => el_rowI _ hj)
theorem uf133 {f : Nat → Int32} : va_up (WG V o h) 133 (.inl (V.2.1 1, 5, .inl f)) = WG V o (rowI h 133 f) := wgm (by decide) rfl (fun j hj => el_rowI _ hj)
theorem g134 : WG V o h 134 = .inl (V.2.1 1, 5, .inl (h.1 134)) := wm_at (by decide) rfl
theorem u134 {i : Nat} {x : Int32} : va_up (WG V o h) 134 (.inl (V.2.1 1, 5, .inl (upd (h.1 134) i x))) = WG V o (wI h 134 i x) := wgm (by decide) rfl (fun j hj => el_rowI _ hj)
theorem uf134 {f : Nat → Int32} : va_up (WG V o h) 134 (.inl (V.2.1 1, 5, .inl f)) = WG V o (rowI h 134 f) := wgm (by decide) rfl (fun j hj => el_rowI _ hj)
theorem g135 : WG V o h 135 = .inl (V.2.1 1, 10, .inl (h.1 135)) := wm_at (by decide) rfl
theorem u135 {i : Nat} {x : Int32} : va_up (WG V o h) 135 (.inl (V.2.1 1, 10, .inl (upd (h.1 135) i x))) = WG V o (wI h 135 i x) := wgm (by decide) rfl (fun j hj => el_rowI _ hj)
theorem uf135 {f : Nat → Int32} : va_up (WG V o h) 135 (.inl (V.2.1 1, 10, .inl f)) = WG V o (rowI h 135 f) := wgm (by decide) rfl (fun j hj => el_rowI _ hj)
theorem g136 : WG V o h 136 = .inl (V.2.1 1, 8, .inl (h.1 136)) := wm_at (by decide) rfl
theorem u136 {i : Nat} {x : Int32} : va_up (WG V o h) 136 (.inl (V.2.1 1, 8, .inl (upd (h.1 136) i x))) = WG V o (wI h 136 i x) := wgm (by decide) rfl (fun j hj => el_rowI _ hj)
theorem uf136 {f : Nat → Int32} : va_up (WG V o h) 136 (.inl (V.2.1 1, 8, .inl f)) = WG V o (rowI h 136 f) := wgm (by decide) rfl (fun j hj => el_rowI _ hj)
theorem g137 : WG V o h 137 = .inl (V.2.1 1, 8, .inl (h.1 137)) := wm_at (by decide) rfl
theorem u137 {i : Nat} {x : Int32} : va_up (WG V o h) 137 (.inl (V.2.1 1, 8, .inl (upd (h.1 137) i x))) = WG V o (wI h 137 i x) := wgm (by decide) rfl (fun j hj => el_rowI _ hj)
theorem uf137 {f : Nat → Int32} : va_up (WG V o h) 137 (.inl (V.2.1 1, 8, .inl f)) = WG V o (rowI h 137 f) := wgm (by decide) rfl (fun j hj => el_rowI _ hj)
theorem g138 : WG V o h 138 = .inl (V.2.1 1, 20, .inl (h.1 138)) := wm_at (by decide) rfl
theorem u138 {i : Nat} {x : Int32} : va_up (WG V o h) 138 (.inl (V.2.1 1, 20, .inl (upd (h.1 138) i x))) = WG V o (wI h 138 i x) := wgm (by decide) rfl (fun j hj => el_rowI _ hj)
theorem uf138 {f : Nat → Int32} : va_up (WG V o h) 138 (.inl (V.2.1 1, 20, .inl f)) = WG V o (rowI h 138 f) := wgm (by decide) rfl (fun j hj => el_rowI _ hj)
theorem g139 : WG V o h 139 = .inl (V.2.1 1, 6, .inl (h.1 139)) := wm_at (by decide) rfl
theorem u139 {i : Nat} {x : Int32} : va_up (WG V o h) 139 (.inl (V.2.1 1, 6, .inl (upd (h.1 139) i x))) = WG V o (wI h 139 i x) := wgm (by decide) rfl (fun j hj => el_rowI _ hj)
theorem uf139 {f : Nat → Int32} : va_up (WG V o h) 139 (.inl (V.2.1 1, 6, .inl f)) = WG V o (rowI h 139 f) := wgm (by decide) rfl (fun j hj => el_rowI _ hj)
theorem g140 : WG V o h 140 = .inl (V.2.1 1, 6, .inl (h.1 140)) := wm_at (by decide) rfl
theorem u140 {i : Nat} {x : Int32} : va_up (WG V o h) 140 (.inl (V.2.1 1, 6, .inl (upd (h.1 140) i x))) = WG V o (wI h 140 i x) := wgm (by decide) rfl (fun j hj => el_rowI _ hj)
theorem uf140 {f : Nat → Int32} : va_up (WG V o h) 140 (.inl (V.2.1 1, 6, .inl f)) = WG V o (rowI h 140 f) := wgm (by decide) rfl (fun j hj => el_rowI _ hj)
theorem g141 : WG V o h 141 = .inl (V.2.1 2, 360, .inr (.inl (h.2.1 141))) := wm_at (by decide) rfl
theorem u141 {i : Nat} {x : Int64} : va_up (WG V o h) 141 (.inl (V.2.1 2, 360, .inr (.inl (vp_updL (h.2.1 141) i x)))) = WG V o (wL h 141 i x) := wgm (by decide) rfl (fun j hj => el_rowL _ hj)
theorem uf141 {f : Nat → Int64} : va_up (WG V o h) 141 (.inl (V.2.1 2, 360, .inr (.inl f))) = WG V o (rowL h 141 f) := wgm (by decide) rfl (fun j hj => el_rowL _ hj)
theorem g142 : WG V o h 142 = .inl (V.2.1 2, 60, .inr (.inl (h.2.1 142))) := wm_at (by decide) rfl
theorem u142 {i : Nat} {x : Int64} : va_up (WG V o h) 142 (.inl (V.2.1 2, 60, .inr (.inl (vp_updL (h.2.1 142) i x)))) = WG V o (wL h 142 i x) := wgm (by decide) rfl (fun j hj => el_rowL _ hj)
theorem uf142 {f : Nat → Int64} : va_up (WG V o h) 142 (.inl (V.2.1 2, 60, .inr (.inl f))) = WG V o (rowL h 142 f) := wgm (by decide) rfl (fun j hj => el_rowL _ hj)
def isCourse (k : Nat) : Bool := ([6, 21, 35, 42, 45, 48, 51, 54, 57, 60] : List Nat).contains k
theorem isCourse_or {k : Nat} (hk : isCourse k = true) : k = 6 ∨ k = 21 ∨ k = 35 ∨ k = 42 ∨ k = 45 ∨ k = 48 ∨ k = 51 ∨ k = 54 ∨ k = 57 ∨ k = 60 := by simpa [isCourse] using hk
theorem b_Course {k : Nat} (hk : isCourse k = true) : Nat.ble (k + 1) 143 = true := by rcases isCourse_or hk with rfl | rfl | rfl | rfl | rfl | rfl | rfl | rfl | rfl | rfl <;> rfl
theorem m_Course {k : Nat} (hk : isCourse k = true) : k < 102 := by rcases isCourse_or hk with rfl | rfl | rfl | rfl | rfl | rfl | rfl | rfl | rfl | rfl <;> decide
theorem e_Course {k : Nat} (hk : isCourse k = true) : el V h k = .inr (3, [.int (h.1 k 0), rf V (k + 1), rf V (k + 2)]) := by rcases isCourse_or hk with rfl | rfl | rfl | rfl | rfl | rfl | rfl | rfl | rfl | rfl <;> rfl
theorem g_Course {k : Nat} (hk : isCourse k = true) : WG V h o k = .inr (3, [.int (h.1 k 0), rf V (k + 1), rf V (k + 2)]) := wc_at (m_Course hk) (e_Course hk)
theorem u_Course_0 {k : Nat} {x : Int32} (hk : isCourse k = true) : va_up (WG V h o) k (.inr (3, ([.int (h.1 k 0), rf V (k + 1), rf V (k + 2)] : List Value).set 0 (.int x))) = WG V (wI h k 0 x) o := by
  refine wgc (m_Course hk) ((e_Course hk).trans ?_) (fun j hj => el_rowI _ hj)
  simp [wI, rowI, va_up, upd]
theorem b_Course_heard {k : Nat} (hk : isCourse k = true) : Nat.ble ((k + 1) + 1) 143 = true := by rcases isCourse_or hk with rfl | rfl | rfl | rfl | rfl | rfl | rfl | rfl | rfl | rfl <;> rfl
theorem m_Course_heard {k : Nat} (hk : isCourse k = true) : (k + 1) < 102 := by rcases isCourse_or hk with rfl | rfl | rfl | rfl | rfl | rfl | rfl | rfl | rfl | rfl <;> decide
theorem e_Course_heard {k : Nat} (hk : isCourse k = true) : el V h (k + 1) = .inl (V.2.1 1, 6, .inl (h.1 (k + 1))) := by rcases isCourse_or hk with rfl | rfl | rfl | rfl | rfl | rfl | rfl | rfl | rfl | rfl <;> rfl
theorem g_Course_heard {k : Nat} (hk : isCourse k = true) : WG V h o (k + 1) = .inl (V.2.1 1, 6, .inl (h.1 (k + 1))) := wc_at (m_Course_heard hk) (e_Course_heard hk)
theorem uf_Course_heard {k : Nat} {f : Nat → Int32} (hk : isCourse k = true) : va_up (WG V h o) (k + 1) (.inl (V.2.1 1, 6, .inl f)) = WG V (rowI h (k + 1) f) o := by
  refine wgc (m_Course_heard hk) ((e_Course_heard hk).trans ?_) (fun j hj => el_rowI _ hj)
  simp [rowI, va_up]
theorem u_Course_heard {k i : Nat} {x : Int32} (hk : isCourse k = true) : va_up (WG V h o) (k + 1) (.inl (V.2.1 1, 6, .inl (upd (h.1 (k + 1)) i x))) = WG V (wI h (k + 1) i x) o := uf_Course_heard hk
theorem b_Course_balks {k : Nat} (hk : isCourse k = true) : Nat.ble ((k + 2) + 1) 143 = true := by rcases isCourse_or hk with rfl | rfl | rfl | rfl | rfl | rfl | rfl | rfl | rfl | rfl <;> rfl
theorem m_Course_balks {k : Nat} (hk : isCourse k = true) : (k + 2) < 102 := by rcases isCourse_or hk with rfl | rfl | rfl | rfl | rfl | rfl | rfl | rfl | rfl | rfl <;> decide
theorem e_Course_balks {k : Nat} (hk : isCourse k = true) : el V h (k + 2) = .inl (V.2.1 3, 6, .inl (h.1 (k + 2))) := by rcases isCourse_or hk with rfl | rfl | rfl | rfl | rfl | rfl | rfl | rfl | rfl | rfl <;> rfl
theorem g_Course_balks {k : Nat} (hk : isCourse k = true) : WG V h o (k + 2) = .inl (V.2.1 3, 6, .inl (h.1 (k + 2))) := wc_at (m_Course_balks hk) (e_Course_balks hk)
theorem uf_Course_balks {k : Nat} {f : Nat → Int32} (hk : isCourse k = true) : va_up (WG V h o) (k + 2) (.inl (V.2.1 3, 6, .inl f)) = WG V (rowI h (k + 2) f) o := by
  refine wgc (m_Course_balks hk) ((e_Course_balks hk).trans ?_) (fun j hj => el_rowI _ hj)
  simp [rowI, va_up]
theorem u_Course_balks {k i : Nat} {x : Int32} (hk : isCourse k = true) : va_up (WG V h o) (k + 2) (.inl (V.2.1 3, 6, .inl (upd (h.1 (k + 2)) i x))) = WG V (wI h (k + 2) i x) o := uf_Course_balks hk
def isRows (k : Nat) : Bool := ([9, 11, 13, 24, 26, 28] : List Nat).contains k
theorem isRows_or {k : Nat} (hk : isRows k = true) : k = 9 ∨ k = 11 ∨ k = 13 ∨ k = 24 ∨ k = 26 ∨ k = 28 := by simpa [isRows] using hk
theorem b_Rows {k : Nat} (hk : isRows k = true) : Nat.ble (k + 1) 143 = true := by rcases isRows_or hk with rfl | rfl | rfl | rfl | rfl | rfl <;> rfl
theorem m_Rows {k : Nat} (hk : isRows k = true) : k < 102 := by rcases isRows_or hk with rfl | rfl | rfl | rfl | rfl | rfl <;> decide
theorem e_Rows {k : Nat} (hk : isRows k = true) : el V h k = .inr (6, [.int (h.1 k 0), rf V (k + 1), .int (h.1 k 2)]) := by rcases isRows_or hk with rfl | rfl | rfl | rfl | rfl | rfl <;> rfl
theorem g_Rows {k : Nat} (hk : isRows k = true) : WG V h o k = .inr (6, [.int (h.1 k 0), rf V (k + 1), .int (h.1 k 2)]) := wc_at (m_Rows hk) (e_Rows hk)
theorem u_Rows_0 {k : Nat} {x : Int32} (hk : isRows k = true) : va_up (WG V h o) k (.inr (6, ([.int (h.1 k 0), rf V (k + 1), .int (h.1 k 2)] : List Value).set 0 (.int x))) = WG V (wI h k 0 x) o := by
  refine wgc (m_Rows hk) ((e_Rows hk).trans ?_) (fun j hj => el_rowI _ hj)
  simp [wI, rowI, va_up, upd]
theorem b_Rows_cells {k : Nat} (hk : isRows k = true) : Nat.ble ((k + 1) + 1) 143 = true := by rcases isRows_or hk with rfl | rfl | rfl | rfl | rfl | rfl <;> rfl
theorem m_Rows_cells {k : Nat} (hk : isRows k = true) : (k + 1) < 102 := by rcases isRows_or hk with rfl | rfl | rfl | rfl | rfl | rfl <;> decide
theorem e_Rows_cells {k : Nat} (hk : isRows k = true) : el V h (k + 1) = .inl (V.2.1 1, lnA (k + 1), .inl (h.1 (k + 1))) := by rcases isRows_or hk with rfl | rfl | rfl | rfl | rfl | rfl <;> rfl
theorem g_Rows_cells {k : Nat} (hk : isRows k = true) : WG V h o (k + 1) = .inl (V.2.1 1, lnA (k + 1), .inl (h.1 (k + 1))) := wc_at (m_Rows_cells hk) (e_Rows_cells hk)
theorem uf_Rows_cells {k : Nat} {f : Nat → Int32} (hk : isRows k = true) : va_up (WG V h o) (k + 1) (.inl (V.2.1 1, lnA (k + 1), .inl f)) = WG V (rowI h (k + 1) f) o := by
  refine wgc (m_Rows_cells hk) ((e_Rows_cells hk).trans ?_) (fun j hj => el_rowI _ hj)
  simp [rowI, va_up]
theorem u_Rows_cells {k i : Nat} {x : Int32} (hk : isRows k = true) : va_up (WG V h o) (k + 1) (.inl (V.2.1 1, lnA (k + 1), .inl (upd (h.1 (k + 1)) i x))) = WG V (wI h (k + 1) i x) o := uf_Rows_cells hk
theorem u_Rows_2 {k : Nat} {x : Int32} (hk : isRows k = true) : va_up (WG V h o) k (.inr (6, ([.int (h.1 k 0), rf V (k + 1), .int (h.1 k 2)] : List Value).set 2 (.int x))) = WG V (wI h k 2 x) o := by
  refine wgc (m_Rows hk) ((e_Rows hk).trans ?_) (fun j hj => el_rowI _ hj)
  simp [wI, rowI, va_up, upd]
def isBench (k : Nat) : Bool := ([66, 70, 74, 78, 82, 86] : List Nat).contains k
theorem isBench_or {k : Nat} (hk : isBench k = true) : k = 66 ∨ k = 70 ∨ k = 74 ∨ k = 78 ∨ k = 82 ∨ k = 86 := by simpa [isBench] using hk
theorem b_Bench {k : Nat} (hk : isBench k = true) : Nat.ble (k + 1) 143 = true := by rcases isBench_or hk with rfl | rfl | rfl | rfl | rfl | rfl <;> rfl
theorem m_Bench {k : Nat} (hk : isBench k = true) : k < 102 := by rcases isBench_or hk with rfl | rfl | rfl | rfl | rfl | rfl <;> decide
theorem e_Bench {k : Nat} (hk : isBench k = true) : el V h k = .inr (2, [.int (h.1 k 0), .int (h.1 k 1), rf V (k + 1), rf V (k + 2), .int (h.1 k 4), rf V (k + 3)]) := by rcases isBench_or hk with rfl | rfl | rfl | rfl | rfl | rfl <;> rfl
theorem g_Bench {k : Nat} (hk : isBench k = true) : WG V h o k = .inr (2, [.int (h.1 k 0), .int (h.1 k 1), rf V (k + 1), rf V (k + 2), .int (h.1 k 4), rf V (k + 3)]) := wc_at (m_Bench hk) (e_Bench hk)
theorem u_Bench_0 {k : Nat} {x : Int32} (hk : isBench k = true) : va_up (WG V h o) k (.inr (2, ([.int (h.1 k 0), .int (h.1 k 1), rf V (k + 1), rf V (k + 2), .int (h.1 k 4), rf V (k + 3)] : List Value).set 0 (.int x))) = WG V (wI h k 0 x) o := by
  refine wgc (m_Bench hk) ((e_Bench hk).trans ?_) (fun j hj => el_rowI _ hj)
  simp [wI, rowI, va_up, upd]
theorem u_Bench_1 {k : Nat} {x : Int32} (hk : isBench k = true) : va_up (WG V h o) k (.inr (2, ([.int (h.1 k 0), .int (h.1 k 1), rf V (k + 1), rf V (k + 2), .int (h.1 k 4), rf V (k + 3)] : List Value).set 1 (.int x))) = WG V (wI h k 1 x) o := by
  refine wgc (m_Bench hk) ((e_Bench hk).trans ?_) (fun j hj => el_rowI _ hj)
  simp [wI, rowI, va_up, upd]
theorem b_Bench_weights {k : Nat} (hk : isBench k = true) : Nat.ble ((k + 1) + 1) 143 = true := by rcases isBench_or hk with rfl | rfl | rfl | rfl | rfl | rfl <;> rfl
theorem m_Bench_weights {k : Nat} (hk : isBench k = true) : (k + 1) < 102 := by rcases isBench_or hk with rfl | rfl | rfl | rfl | rfl | rfl <;> decide
theorem e_Bench_weights {k : Nat} (hk : isBench k = true) : el V h (k + 1) = .inl (V.2.1 1, 10, .inl (h.1 (k + 1))) := by rcases isBench_or hk with rfl | rfl | rfl | rfl | rfl | rfl <;> rfl
theorem g_Bench_weights {k : Nat} (hk : isBench k = true) : WG V h o (k + 1) = .inl (V.2.1 1, 10, .inl (h.1 (k + 1))) := wc_at (m_Bench_weights hk) (e_Bench_weights hk)
theorem uf_Bench_weights {k : Nat} {f : Nat → Int32} (hk : isBench k = true) : va_up (WG V h o) (k + 1) (.inl (V.2.1 1, 10, .inl f)) = WG V (rowI h (k + 1) f) o := by
  refine wgc (m_Bench_weights hk) ((e_Bench_weights hk).trans ?_) (fun j hj => el_rowI _ hj)
  simp [rowI, va_up]
theorem u_Bench_weights {k i : Nat} {x : Int32} (hk : isBench k = true) : va_up (WG V h o) (k + 1) (.inl (V.2.1 1, 10, .inl (upd (h.1 (k + 1)) i x))) = WG V (wI h (k + 1) i x) o := uf_Bench_weights hk
theorem b_Bench_ends {k : Nat} (hk : isBench k = true) : Nat.ble ((k + 2) + 1) 143 = true := by rcases isBench_or hk with rfl | rfl | rfl | rfl | rfl | rfl <;> rfl
theorem m_Bench_ends {k : Nat} (hk : isBench k = true) : (k + 2) < 102 := by rcases isBench_or hk with rfl | rfl | rfl | rfl | rfl | rfl <;> decide
theorem e_Bench_ends {k : Nat} (hk : isBench k = true) : el V h (k + 2) = .inl (V.2.1 1, 10, .inl (h.1 (k + 2))) := by rcases isBench_or hk with rfl | rfl | rfl | rfl | rfl | rfl <;> rfl
theorem g_Bench_ends {k : Nat} (hk : isBench k = true) : WG V h o (k + 2) = .inl (V.2.1 1, 10, .inl (h.1 (k + 2))) := wc_at (m_Bench_ends hk) (e_Bench_ends hk)
theorem uf_Bench_ends {k : Nat} {f : Nat → Int32} (hk : isBench k = true) : va_up (WG V h o) (k + 2) (.inl (V.2.1 1, 10, .inl f)) = WG V (rowI h (k + 2) f) o := by
  refine wgc (m_Bench_ends hk) ((e_Bench_ends hk).trans ?_) (fun j hj => el_rowI _ hj)
  simp [rowI, va_up]
theorem u_Bench_ends {k i : Nat} {x : Int32} (hk : isBench k = true) : va_up (WG V h o) (k + 2) (.inl (V.2.1 1, 10, .inl (upd (h.1 (k + 2)) i x))) = WG V (wI h (k + 2) i x) o := uf_Bench_ends hk
theorem u_Bench_4 {k : Nat} {x : Int32} (hk : isBench k = true) : va_up (WG V h o) k (.inr (2, ([.int (h.1 k 0), .int (h.1 k 1), rf V (k + 1), rf V (k + 2), .int (h.1 k 4), rf V (k + 3)] : List Value).set 4 (.int x))) = WG V (wI h k 4 x) o := by
  refine wgc (m_Bench hk) ((e_Bench hk).trans ?_) (fun j hj => el_rowI _ hj)
  simp [wI, rowI, va_up, upd]
theorem b_Bench_steps {k : Nat} (hk : isBench k = true) : Nat.ble ((k + 3) + 1) 143 = true := by rcases isBench_or hk with rfl | rfl | rfl | rfl | rfl | rfl <;> rfl
theorem m_Bench_steps {k : Nat} (hk : isBench k = true) : (k + 3) < 102 := by rcases isBench_or hk with rfl | rfl | rfl | rfl | rfl | rfl <;> decide
theorem e_Bench_steps {k : Nat} (hk : isBench k = true) : el V h (k + 3) = .inl (V.2.1 1, 100, .inl (h.1 (k + 3))) := by rcases isBench_or hk with rfl | rfl | rfl | rfl | rfl | rfl <;> rfl
theorem g_Bench_steps {k : Nat} (hk : isBench k = true) : WG V h o (k + 3) = .inl (V.2.1 1, 100, .inl (h.1 (k + 3))) := wc_at (m_Bench_steps hk) (e_Bench_steps hk)
theorem uf_Bench_steps {k : Nat} {f : Nat → Int32} (hk : isBench k = true) : va_up (WG V h o) (k + 3) (.inl (V.2.1 1, 100, .inl f)) = WG V (rowI h (k + 3) f) o := by
  refine wgc (m_Bench_steps hk) ((e_Bench_steps hk).trans ?_) (fun j hj => el_rowI _ hj)
  simp [rowI, va_up]
theorem u_Bench_steps {k i : Nat} {x : Int32} (hk : isBench k = true) : va_up (WG V h o) (k + 3) (.inl (V.2.1 1, 100, .inl (upd (h.1 (k + 3)) i x))) = WG V (wI h (k + 3) i x) o := uf_Bench_steps hk
def isTape (k : Nat) : Bool := ([90, 92, 94, 96, 98, 100] : List Nat).contains k
theorem isTape_or {k : Nat} (hk : isTape k = true) : k = 90 ∨ k = 92 ∨ k = 94 ∨ k = 96 ∨ k = 98 ∨ k = 100 := by simpa [isTape] using hk
theorem b_Tape {k : Nat} (hk : isTape k = true) : Nat.ble (k + 1) 143 = true := by rcases isTape_or hk with rfl | rfl | rfl | rfl | rfl | rfl <;> rfl
theorem m_Tape {k : Nat} (hk : isTape k = true) : k < 102 := by rcases isTape_or hk with rfl | rfl | rfl | rfl | rfl | rfl <;> decide
theorem e_Tape {k : Nat} (hk : isTape k = true) : el V h k = .inr (8, [.int (h.1 k 0), .int (h.1 k 1), rf V (k + 1)]) := by rcases isTape_or hk with rfl | rfl | rfl | rfl | rfl | rfl <;> rfl
theorem g_Tape {k : Nat} (hk : isTape k = true) : WG V h o k = .inr (8, [.int (h.1 k 0), .int (h.1 k 1), rf V (k + 1)]) := wc_at (m_Tape hk) (e_Tape hk)
theorem u_Tape_0 {k : Nat} {x : Int32} (hk : isTape k = true) : va_up (WG V h o) k (.inr (8, ([.int (h.1 k 0), .int (h.1 k 1), rf V (k + 1)] : List Value).set 0 (.int x))) = WG V (wI h k 0 x) o := by
  refine wgc (m_Tape hk) ((e_Tape hk).trans ?_) (fun j hj => el_rowI _ hj)
  simp [wI, rowI, va_up, upd]
theorem u_Tape_1 {k : Nat} {x : Int32} (hk : isTape k = true) : va_up (WG V h o) k (.inr (8, ([.int (h.1 k 0), .int (h.1 k 1), rf V (k + 1)] : List Value).set 1 (.int x))) = WG V (wI h k 1 x) o := by
  refine wgc (m_Tape hk) ((e_Tape hk).trans ?_) (fun j hj => el_rowI _ hj)
  simp [wI, rowI, va_up, upd]
theorem b_Tape_items {k : Nat} (hk : isTape k = true) : Nat.ble ((k + 1) + 1) 143 = true := by rcases isTape_or hk with rfl | rfl | rfl | rfl | rfl | rfl <;> rfl
theorem m_Tape_items {k : Nat} (hk : isTape k = true) : (k + 1) < 102 := by rcases isTape_or hk with rfl | rfl | rfl | rfl | rfl | rfl <;> decide
theorem e_Tape_items {k : Nat} (hk : isTape k = true) : el V h (k + 1) = .inl (V.2.1 2, 60, .inr (.inl (h.2.1 (k + 1)))) := by rcases isTape_or hk with rfl | rfl | rfl | rfl | rfl | rfl <;> rfl
theorem g_Tape_items {k : Nat} (hk : isTape k = true) : WG V h o (k + 1) = .inl (V.2.1 2, 60, .inr (.inl (h.2.1 (k + 1)))) := wc_at (m_Tape_items hk) (e_Tape_items hk)
theorem uf_Tape_items {k : Nat} {f : Nat → Int64} (hk : isTape k = true) : va_up (WG V h o) (k + 1) (.inl (V.2.1 2, 60, .inr (.inl f))) = WG V (rowL h (k + 1) f) o := by
  refine wgc (m_Tape_items hk) ((e_Tape_items hk).trans ?_) (fun j hj => el_rowL _ hj)
  simp [rowL, va_up]
theorem u_Tape_items {k i : Nat} {x : Int64} (hk : isTape k = true) : va_up (WG V h o) (k + 1) (.inl (V.2.1 2, 60, .inr (.inl (vp_updL (h.2.1 (k + 1)) i x)))) = WG V (wL h (k + 1) i x) o := uf_Tape_items hk
def isShop (k : Nat) : Bool := ([1, 16] : List Nat).contains k
theorem isShop_or {k : Nat} (hk : isShop k = true) : k = 1 ∨ k = 16 := by simpa [isShop] using hk
theorem b_Shop {k : Nat} (hk : isShop k = true) : Nat.ble (k + 1) 143 = true := by rcases isShop_or hk with rfl | rfl <;> rfl
theorem m_Shop {k : Nat} (hk : isShop k = true) : k < 102 := by rcases isShop_or hk with rfl | rfl <;> decide
theorem e_Shop {k : Nat} (hk : isShop k = true) : el V h k = .inr (7, [.int (h.1 k 0), rf V (k + 1), rf V (k + 2), rf V (k + 3), rf V (k + 4), rf V (k + 5), rf V (k + 8), rf V (k + 10), rf V (k + 12), rf V (k + 14), rq V (h.2.2 k 10)]) := by rcases isShop_or hk with rfl | rfl <;> rfl
theorem g_Shop {k : Nat} (hk : isShop k = true) : WG V h o k = .inr (7, [.int (h.1 k 0), rf V (k + 1), rf V (k + 2), rf V (k + 3), rf V (k + 4), rf V (k + 5), rf V (k + 8), rf V (k + 10), rf V (k + 12), rf V (k + 14), rq V (h.2.2 k 10)]) := wc_at (m_Shop hk) (e_Shop hk)
theorem u_Shop_0 {k : Nat} {x : Int32} (hk : isShop k = true) : va_up (WG V h o) k (.inr (7, ([.int (h.1 k 0), rf V (k + 1), rf V (k + 2), rf V (k + 3), rf V (k + 4), rf V (k + 5), rf V (k + 8), rf V (k + 10), rf V (k + 12), rf V (k + 14), rq V (h.2.2 k 10)] : List Value).set 0 (.int x))) = WG V (wI h k 0 x) o := by
  refine wgc (m_Shop hk) ((e_Shop hk).trans ?_) (fun j hj => el_rowI _ hj)
  simp [wI, rowI, va_up, upd]
theorem b_Shop_kinds {k : Nat} (hk : isShop k = true) : Nat.ble ((k + 1) + 1) 143 = true := by rcases isShop_or hk with rfl | rfl <;> rfl
theorem m_Shop_kinds {k : Nat} (hk : isShop k = true) : (k + 1) < 102 := by rcases isShop_or hk with rfl | rfl <;> decide
theorem e_Shop_kinds {k : Nat} (hk : isShop k = true) : el V h (k + 1) = .inl (V.2.1 1, 6, .inl (h.1 (k + 1))) := by rcases isShop_or hk with rfl | rfl <;> rfl
theorem g_Shop_kinds {k : Nat} (hk : isShop k = true) : WG V h o (k + 1) = .inl (V.2.1 1, 6, .inl (h.1 (k + 1))) := wc_at (m_Shop_kinds hk) (e_Shop_kinds hk)
theorem uf_Shop_kinds {k : Nat} {f : Nat → Int32} (hk : isShop k = true) : va_up (WG V h o) (k + 1) (.inl (V.2.1 1, 6, .inl f)) = WG V (rowI h (k + 1) f) o := by
  refine wgc (m_Shop_kinds hk) ((e_Shop_kinds hk).trans ?_) (fun j hj => el_rowI _ hj)
  simp [rowI, va_up]
theorem u_Shop_kinds {k i : Nat} {x : Int32} (hk : isShop k = true) : va_up (WG V h o) (k + 1) (.inl (V.2.1 1, 6, .inl (upd (h.1 (k + 1)) i x))) = WG V (wI h (k + 1) i x) o := uf_Shop_kinds hk
theorem b_Shop_values {k : Nat} (hk : isShop k = true) : Nat.ble ((k + 2) + 1) 143 = true := by rcases isShop_or hk with rfl | rfl <;> rfl
theorem m_Shop_values {k : Nat} (hk : isShop k = true) : (k + 2) < 102 := by rcases isShop_or hk with rfl | rfl <;> decide
theorem e_Shop_values {k : Nat} (hk : isShop k = true) : el V h (k + 2) = .inl (V.2.1 1, 6, .inl (h.1 (k + 2))) := by rcases isShop_or hk with rfl | rfl <;> rfl
theorem g_Shop_values {k : Nat} (hk : isShop k = true) : WG V h o (k + 2) = .inl (V.2.1 1, 6, .inl (h.1 (k + 2))) := wc_at (m_Shop_values hk) (e_Shop_values hk)
theorem uf_Shop_values {k : Nat} {f : Nat → Int32} (hk : isShop k = true) : va_up (WG V h o) (k + 2) (.inl (V.2.1 1, 6, .inl f)) = WG V (rowI h (k + 2) f) o := by
  refine wgc (m_Shop_values hk) ((e_Shop_values hk).trans ?_) (fun j hj => el_rowI _ hj)
  simp [rowI, va_up]
theorem u_Shop_values {k i : Nat} {x : Int32} (hk : isShop k = true) : va_up (WG V h o) (k + 2) (.inl (V.2.1 1, 6, .inl (upd (h.1 (k + 2)) i x))) = WG V (wI h (k + 2) i x) o := uf_Shop_values hk
theorem b_Shop_rows {k : Nat} (hk : isShop k = true) : Nat.ble ((k + 3) + 1) 143 = true := by rcases isShop_or hk with rfl | rfl <;> rfl
theorem m_Shop_rows {k : Nat} (hk : isShop k = true) : (k + 3) < 102 := by rcases isShop_or hk with rfl | rfl <;> decide
theorem e_Shop_rows {k : Nat} (hk : isShop k = true) : el V h (k + 3) = .inl (V.2.1 1, 24, .inl (h.1 (k + 3))) := by rcases isShop_or hk with rfl | rfl <;> rfl
theorem g_Shop_rows {k : Nat} (hk : isShop k = true) : WG V h o (k + 3) = .inl (V.2.1 1, 24, .inl (h.1 (k + 3))) := wc_at (m_Shop_rows hk) (e_Shop_rows hk)
theorem uf_Shop_rows {k : Nat} {f : Nat → Int32} (hk : isShop k = true) : va_up (WG V h o) (k + 3) (.inl (V.2.1 1, 24, .inl f)) = WG V (rowI h (k + 3) f) o := by
  refine wgc (m_Shop_rows hk) ((e_Shop_rows hk).trans ?_) (fun j hj => el_rowI _ hj)
  simp [rowI, va_up]
theorem u_Shop_rows {k i : Nat} {x : Int32} (hk : isShop k = true) : va_up (WG V h o) (k + 3) (.inl (V.2.1 1, 24, .inl (upd (h.1 (k + 3)) i x))) = WG V (wI h (k + 3) i x) o := uf_Shop_rows hk
theorem b_Shop_sums {k : Nat} (hk : isShop k = true) : Nat.ble ((k + 4) + 1) 143 = true := by rcases isShop_or hk with rfl | rfl <;> rfl
theorem m_Shop_sums {k : Nat} (hk : isShop k = true) : (k + 4) < 102 := by rcases isShop_or hk with rfl | rfl <;> decide
theorem e_Shop_sums {k : Nat} (hk : isShop k = true) : el V h (k + 4) = .inl (V.2.1 1, 606, .inl (h.1 (k + 4))) := by rcases isShop_or hk with rfl | rfl <;> rfl
theorem g_Shop_sums {k : Nat} (hk : isShop k = true) : WG V h o (k + 4) = .inl (V.2.1 1, 606, .inl (h.1 (k + 4))) := wc_at (m_Shop_sums hk) (e_Shop_sums hk)
theorem uf_Shop_sums {k : Nat} {f : Nat → Int32} (hk : isShop k = true) : va_up (WG V h o) (k + 4) (.inl (V.2.1 1, 606, .inl f)) = WG V (rowI h (k + 4) f) o := by
  refine wgc (m_Shop_sums hk) ((e_Shop_sums hk).trans ?_) (fun j hj => el_rowI _ hj)
  simp [rowI, va_up]
theorem u_Shop_sums {k i : Nat} {x : Int32} (hk : isShop k = true) : va_up (WG V h o) (k + 4) (.inl (V.2.1 1, 606, .inl (upd (h.1 (k + 4)) i x))) = WG V (wI h (k + 4) i x) o := uf_Shop_sums hk
theorem s_Shop_now {k : Nat} (hk : isShop k = true) : isCourse (k + 5) = true := by rcases isShop_or hk with rfl | rfl <;> rfl
theorem s_Shop_seen {k : Nat} (hk : isShop k = true) : isRows (k + 8) = true := by rcases isShop_or hk with rfl | rfl <;> rfl
theorem s_Shop_month {k : Nat} (hk : isShop k = true) : isRows (k + 10) = true := by rcases isShop_or hk with rfl | rfl <;> rfl
theorem s_Shop_book {k : Nat} (hk : isShop k = true) : isRows (k + 12) = true := by rcases isShop_or hk with rfl | rfl <;> rfl
theorem b_Shop_worth {k : Nat} (hk : isShop k = true) : Nat.ble ((k + 14) + 1) 143 = true := by rcases isShop_or hk with rfl | rfl <;> rfl
theorem m_Shop_worth {k : Nat} (hk : isShop k = true) : (k + 14) < 102 := by rcases isShop_or hk with rfl | rfl <;> decide
theorem e_Shop_worth {k : Nat} (hk : isShop k = true) : el V h (k + 14) = .inl (V.2.1 1, 6, .inl (h.1 (k + 14))) := by rcases isShop_or hk with rfl | rfl <;> rfl
theorem g_Shop_worth {k : Nat} (hk : isShop k = true) : WG V h o (k + 14) = .inl (V.2.1 1, 6, .inl (h.1 (k + 14))) := wc_at (m_Shop_worth hk) (e_Shop_worth hk)
theorem uf_Shop_worth {k : Nat} {f : Nat → Int32} (hk : isShop k = true) : va_up (WG V h o) (k + 14) (.inl (V.2.1 1, 6, .inl f)) = WG V (rowI h (k + 14) f) o := by
  refine wgc (m_Shop_worth hk) ((e_Shop_worth hk).trans ?_) (fun j hj => el_rowI _ hj)
  simp [rowI, va_up]
theorem u_Shop_worth {k i : Nat} {x : Int32} (hk : isShop k = true) : va_up (WG V h o) (k + 14) (.inl (V.2.1 1, 6, .inl (upd (h.1 (k + 14)) i x))) = WG V (wI h (k + 14) i x) o := uf_Shop_worth hk
theorem u_Shop_10 {k : Nat} {x : Option Nat} (hk : isShop k = true) : va_up (WG V h o) k (.inr (7, ([.int (h.1 k 0), rf V (k + 1), rf V (k + 2), rf V (k + 3), rf V (k + 4), rf V (k + 5), rf V (k + 8), rf V (k + 10), rf V (k + 12), rf V (k + 14), rq V (h.2.2 k 10)] : List Value).set 10 (rq V x))) = WG V (wR h k 10 x) o := by
  refine wgc (m_Shop hk) ((e_Shop hk).trans ?_) (fun j hj => el_wR _ hj)
  simp [wR, va_up]
theorem ra_Bench {i : Int32} (hi : inb i 6 = true) : isBench (66 + 4 * ix i) = true := by
  have h1 : ix i < 6 := by
    unfold inb at hi
    rw [Bool.and_eq_true, decide_eq_true_eq, decide_eq_true_eq] at hi
    show i.toInt.toNat < 6
    omega
  have h2 : ∀ j, j < 6 → isBench (66 + 4 * j) = true := by decide
  exact h2 _ h1
theorem ra_Course {i : Int32} (hi : inb i 7 = true) : isCourse (42 + 3 * ix i) = true := by
  have h1 : ix i < 7 := by
    unfold inb at hi
    rw [Bool.and_eq_true, decide_eq_true_eq, decide_eq_true_eq] at hi
    show i.toInt.toNat < 7
    omega
  have h2 : ∀ j, j < 7 → isCourse (42 + 3 * j) = true := by decide
  exact h2 _ h1
theorem ra_Tape {i : Int32} (hi : inb i 6 = true) : isTape (90 + 2 * ix i) = true := by
  have h1 : ix i < 6 := by
    unfold inb at hi
    rw [Bool.and_eq_true, decide_eq_true_eq, decide_eq_true_eq] at hi
    show i.toInt.toNat < 6
    omega
  have h2 : ∀ j, j < 6 → isTape (90 + 2 * j) = true := by decide
  exact h2 _ h1
end World
theorem kc0 : KCl 0 RX0 TX0 5 tyX0 := ⟨rfl, subTG _ [343, 345, 347, 349, 351] (by decide +kernel) (by decide +kernel), tyX0_ok, nmX0⟩
theorem kc1 : KCl 1 RX1 TX1 4 tyX1 := ⟨rfl, subTG _ [294, 296, 298, 300] (by decide +kernel) (by decide +kernel), tyX1_ok, nmX1⟩
theorem kc2 : KCl 2 RX2 TX2 6 tyX2 := ⟨rfl, subTG _ [369, 371, 373, 375, 377, 379] (by decide +kernel) (by decide +kernel), tyX2_ok, nmX2⟩
theorem kc3 : KCl 3 RX3 TX3 3 tyX3 := ⟨rfl, subTG _ [174, 176, 178] (by decide +kernel) (by decide +kernel), tyX3_ok, nmX3⟩
theorem kc4 : KCl 4 RX4 TX4 5 tyX4 := ⟨rfl, subTG _ [319, 321, 323, 325, 327] (by decide +kernel) (by decide +kernel), tyX4_ok, nmX4⟩
theorem kc5 : KCl 5 RX5 TX5 6 tyX5 := ⟨rfl, subTG _ [264, 266, 268, 270, 272, 274] (by decide +kernel) (by decide +kernel), tyX5_ok, nmX5⟩
theorem kc6 : KCl 6 RX6 TX6 3 tyX6 := ⟨rfl, subTG _ [194, 196, 198] (by decide +kernel) (by decide +kernel), tyX6_ok, nmX6⟩
theorem kc7 : KCl 7 RX7 TX7 11 tyX7 := ⟨rfl, subTG _ [227, 229, 231, 233, 235, 237, 239, 241, 243, 245, 247] (by decide +kernel) (by decide +kernel), tyX7_ok, nmX7⟩
theorem kc8 : KCl 8 RX8 TX8 3 tyX8 := ⟨rfl, subTG _ [392, 394, 396] (by decide +kernel) (by decide +kernel), tyX8_ok, nmX8⟩
theorem kc9 : KCl 9 RX9 TX9 10 tyX9 := ⟨rfl, subTG _ [410, 412, 414, 416, 418, 420, 422, 424, 426, 428] (by decide +kernel) (by decide +kernel), tyX9_ok, nmX9⟩
theorem kc10 : KCl 10 RX10 TX10 66 tyX10 := ⟨rfl, subTG _ [1074, 1076, 1078, 1080, 1082, 1084, 1086, 1088, 1090, 1092, 1094, 1096, 1098, 1100, 1102, 1104, 1106, 1108, 1110, 1112, 1114, 1116, 1118, 1120, 1122, 1124, 1126, 1128, 1130, 1132, 1134, 1136, 1138, 1140, 1142, 1144, 1146, 1148, 1150, 1152, 1154, 1156, 1158, 1160, 1162, 1164, 1166, 1168, 1170, 1172, 1174, 1176, 1178, 1180, 1182, 1184, 1186, 1188, 1190, 1192, 1194, 1196, 1198, 1200, 1202, 1204] (by decide +kernel) (by decide +kernel), tyX10_ok, nmX10⟩
theorem w_copy : Cond.native arraycopyName ∈ TG ∧ Cond.static arraycopyName ∈ TG ∧ Cond.initialized "java/lang/System" ∈ TG := ⟨inTG 783 (by decide +kernel) rfl, inTG 782 (by decide +kernel) rfl, inTG 139 (by decide +kernel) rfl⟩
theorem w_mmax : Cond.static Lib.Math.max.name ∈ TG ∧ Cond.initialized "java/lang/Math" ∈ TG ∧ Cond.code Lib.Math.max.name Lib.Math.max.code 2 (some .int) ∈ TG := ⟨inTG 458 (by decide +kernel) rfl, inTG 133 (by decide +kernel) rfl, inTG 459 (by decide +kernel) rfl⟩
theorem w_mmin : Cond.static Lib.Math.min.name ∈ TG ∧ Cond.initialized "java/lang/Math" ∈ TG ∧ Cond.code Lib.Math.min.name Lib.Math.min.code 2 (some .int) ∈ TG := ⟨inTG 675 (by decide +kernel) rfl, inTG 133 (by decide +kernel) rfl, inTG 676 (by decide +kernel) rfl⟩
theorem wf_X3_9 : Cond.fieldLink RX3 9 (TX3 0).1 (TX3 0).2.1 (TX3 0).2.2.1 ∈ TG := inTG 161 (by decide +kernel) rfl
theorem wf_X9_81 : Cond.fieldLinkNest RX9 81 (TX3 0).1 (TX3 0).2.1 (TX3 0).2.2.1 "ClocksTold" ∈ TN := inTN 162 (by decide +kernel) rfl
theorem wf_X7_73 : Cond.fieldLinkNest RX7 73 (TX3 0).1 (TX3 0).2.1 (TX3 0).2.2.1 "ClocksTold" ∈ TN := inTN 163 (by decide +kernel) rfl
theorem wf_X1_64 : Cond.fieldLinkNest RX1 64 (TX3 0).1 (TX3 0).2.1 (TX3 0).2.2.1 "ClocksTold" ∈ TN := inTN 164 (by decide +kernel) rfl
theorem wf_X3_15 : Cond.fieldLink RX3 15 (TX3 1).1 (TX3 1).2.1 (TX3 1).2.2.1 ∈ TG := inTG 165 (by decide +kernel) rfl
theorem wf_X7_70 : Cond.fieldLinkNest RX7 70 (TX3 1).1 (TX3 1).2.1 (TX3 1).2.2.1 "ClocksTold" ∈ TN := inTN 166 (by decide +kernel) rfl
theorem wf_X9_104 : Cond.fieldLinkNest RX9 104 (TX3 1).1 (TX3 1).2.1 (TX3 1).2.2.1 "ClocksTold" ∈ TN := inTN 167 (by decide +kernel) rfl
theorem wf_X1_49 : Cond.fieldLinkNest RX1 49 (TX3 1).1 (TX3 1).2.1 (TX3 1).2.2.1 "ClocksTold" ∈ TN := inTN 168 (by decide +kernel) rfl
theorem wf_X3_19 : Cond.fieldLink RX3 19 (TX3 2).1 (TX3 2).2.1 (TX3 2).2.2.1 ∈ TG := inTG 169 (by decide +kernel) rfl
theorem wf_X7_76 : Cond.fieldLinkNest RX7 76 (TX3 2).1 (TX3 2).2.1 (TX3 2).2.2.1 "ClocksTold" ∈ TN := inTN 170 (by decide +kernel) rfl
theorem wf_X9_107 : Cond.fieldLinkNest RX9 107 (TX3 2).1 (TX3 2).2.1 (TX3 2).2.2.1 "ClocksTold" ∈ TN := inTN 171 (by decide +kernel) rfl
theorem wf_X4_62 : Cond.fieldLinkNest RX4 62 (TX3 2).1 (TX3 2).2.1 (TX3 2).2.2.1 "ClocksTold" ∈ TN := inTN 172 (by decide +kernel) rfl
theorem wf_X1_53 : Cond.fieldLinkNest RX1 53 (TX3 2).1 (TX3 2).2.1 (TX3 2).2.2.1 "ClocksTold" ∈ TN := inTN 173 (by decide +kernel) rfl
theorem wf_X6_15 : Cond.fieldLink RX6 15 (TX6 0).1 (TX6 0).2.1 (TX6 0).2.2.1 ∈ TG := inTG 189 (by decide +kernel) rfl
theorem wf_X6_18 : Cond.fieldLink RX6 18 (TX6 1).1 (TX6 1).2.1 (TX6 1).2.2.1 ∈ TG := inTG 190 (by decide +kernel) rfl
theorem wf_X6_9 : Cond.fieldLink RX6 9 (TX6 2).1 (TX6 2).2.1 (TX6 2).2.2.1 ∈ TG := inTG 191 (by decide +kernel) rfl
theorem wf_X1_85 : Cond.fieldLinkNest RX1 85 (TX6 2).1 (TX6 2).2.1 (TX6 2).2.2.1 "ClocksTold" ∈ TN := inTN 192 (by decide +kernel) rfl
theorem wf_X9_229 : Cond.fieldLinkNest RX9 229 (TX6 2).1 (TX6 2).2.1 (TX6 2).2.2.1 "ClocksTold" ∈ TN := inTN 193 (by decide +kernel) rfl
theorem wf_X7_11 : Cond.fieldLink RX7 11 (TX7 0).1 (TX7 0).2.1 (TX7 0).2.2.1 ∈ TG := inTG 201 (by decide +kernel) rfl
theorem wf_X9_86 : Cond.fieldLinkNest RX9 86 (TX7 0).1 (TX7 0).2.1 (TX7 0).2.2.1 "ClocksTold" ∈ TN := inTN 202 (by decide +kernel) rfl
theorem wf_X4_47 : Cond.fieldLinkNest RX4 47 (TX7 0).1 (TX7 0).2.1 (TX7 0).2.2.1 "ClocksTold" ∈ TN := inTN 203 (by decide +kernel) rfl
theorem wf_X1_74 : Cond.fieldLinkNest RX1 74 (TX7 0).1 (TX7 0).2.1 (TX7 0).2.2.1 "ClocksTold" ∈ TN := inTN 204 (by decide +kernel) rfl
theorem wf_X7_15 : Cond.fieldLink RX7 15 (TX7 1).1 (TX7 1).2.1 (TX7 1).2.2.1 ∈ TG := inTG 205 (by decide +kernel) rfl
theorem wf_X9_97 : Cond.fieldLinkNest RX9 97 (TX7 1).1 (TX7 1).2.1 (TX7 1).2.2.1 "ClocksTold" ∈ TN := inTN 206 (by decide +kernel) rfl
theorem wf_X7_19 : Cond.fieldLink RX7 19 (TX7 2).1 (TX7 2).2.1 (TX7 2).2.2.1 ∈ TG := inTG 207 (by decide +kernel) rfl
theorem wf_X9_101 : Cond.fieldLinkNest RX9 101 (TX7 2).1 (TX7 2).2.1 (TX7 2).2.2.1 "ClocksTold" ∈ TN := inTN 208 (by decide +kernel) rfl
theorem wf_X1_107 : Cond.fieldLinkNest RX1 107 (TX7 2).1 (TX7 2).2.1 (TX7 2).2.2.1 "ClocksTold" ∈ TN := inTN 209 (by decide +kernel) rfl
theorem wf_X7_22 : Cond.fieldLink RX7 22 (TX7 3).1 (TX7 3).2.1 (TX7 3).2.2.1 ∈ TG := inTG 210 (by decide +kernel) rfl
theorem wf_X9_129 : Cond.fieldLinkNest RX9 129 (TX7 3).1 (TX7 3).2.1 (TX7 3).2.2.1 "ClocksTold" ∈ TN := inTN 211 (by decide +kernel) rfl
theorem wf_X7_25 : Cond.fieldLink RX7 25 (TX7 4).1 (TX7 4).2.1 (TX7 4).2.2.1 ∈ TG := inTG 212 (by decide +kernel) rfl
theorem wf_X7_31 : Cond.fieldLink RX7 31 (TX7 5).1 (TX7 5).2.1 (TX7 5).2.2.1 ∈ TG := inTG 213 (by decide +kernel) rfl
theorem wf_X1_29 : Cond.fieldLinkNest RX1 29 (TX7 5).1 (TX7 5).2.1 (TX7 5).2.2.1 "ClocksTold" ∈ TN := inTN 214 (by decide +kernel) rfl
theorem wf_X4_33 : Cond.fieldLinkNest RX4 33 (TX7 5).1 (TX7 5).2.1 (TX7 5).2.2.1 "ClocksTold" ∈ TN := inTN 215 (by decide +kernel) rfl
theorem wf_X9_77 : Cond.fieldLinkNest RX9 77 (TX7 5).1 (TX7 5).2.1 (TX7 5).2.2.1 "ClocksTold" ∈ TN := inTN 216 (by decide +kernel) rfl
theorem wf_X7_40 : Cond.fieldLink RX7 40 (TX7 6).1 (TX7 6).2.1 (TX7 6).2.2.1 ∈ TG := inTG 217 (by decide +kernel) rfl
theorem wf_X1_114 : Cond.fieldLinkNest RX1 114 (TX7 6).1 (TX7 6).2.1 (TX7 6).2.2.1 "ClocksTold" ∈ TN := inTN 218 (by decide +kernel) rfl
theorem wf_X9_187 : Cond.fieldLinkNest RX9 187 (TX7 6).1 (TX7 6).2.1 (TX7 6).2.2.1 "ClocksTold" ∈ TN := inTN 219 (by decide +kernel) rfl
theorem wf_X7_44 : Cond.fieldLink RX7 44 (TX7 7).1 (TX7 7).2.1 (TX7 7).2.2.1 ∈ TG := inTG 220 (by decide +kernel) rfl
theorem wf_X1_81 : Cond.fieldLinkNest RX1 81 (TX7 7).1 (TX7 7).2.1 (TX7 7).2.2.1 "ClocksTold" ∈ TN := inTN 221 (by decide +kernel) rfl
theorem wf_X9_220 : Cond.fieldLinkNest RX9 220 (TX7 7).1 (TX7 7).2.1 (TX7 7).2.2.1 "ClocksTold" ∈ TN := inTN 222 (by decide +kernel) rfl
theorem wf_X7_47 : Cond.fieldLink RX7 47 (TX7 8).1 (TX7 8).2.1 (TX7 8).2.2.1 ∈ TG := inTG 223 (by decide +kernel) rfl
theorem wf_X9_226 : Cond.fieldLinkNest RX9 226 (TX7 8).1 (TX7 8).2.1 (TX7 8).2.2.1 "ClocksTold" ∈ TN := inTN 224 (by decide +kernel) rfl
theorem wf_X7_50 : Cond.fieldLink RX7 50 (TX7 9).1 (TX7 9).2.1 (TX7 9).2.2.1 ∈ TG := inTG 225 (by decide +kernel) rfl
theorem wf_X7_53 : Cond.fieldLink RX7 53 (TX7 10).1 (TX7 10).2.1 (TX7 10).2.2.1 ∈ TG := inTG 226 (by decide +kernel) rfl
theorem wf_X5_9 : Cond.fieldLink RX5 9 (TX5 0).1 (TX5 0).2.1 (TX5 0).2.2.1 ∈ TG := inTG 256 (by decide +kernel) rfl
theorem wf_X5_13 : Cond.fieldLink RX5 13 (TX5 1).1 (TX5 1).2.1 (TX5 1).2.2.1 ∈ TG := inTG 257 (by decide +kernel) rfl
theorem wf_X9_136 : Cond.fieldLinkNest RX9 136 (TX5 1).1 (TX5 1).2.1 (TX5 1).2.2.1 "ClocksTold" ∈ TN := inTN 258 (by decide +kernel) rfl
theorem wf_X5_17 : Cond.fieldLink RX5 17 (TX5 2).1 (TX5 2).2.1 (TX5 2).2.2.1 ∈ TG := inTG 259 (by decide +kernel) rfl
theorem wf_X9_143 : Cond.fieldLinkNest RX9 143 (TX5 2).1 (TX5 2).2.1 (TX5 2).2.2.1 "ClocksTold" ∈ TN := inTN 260 (by decide +kernel) rfl
theorem wf_X5_20 : Cond.fieldLink RX5 20 (TX5 3).1 (TX5 3).2.1 (TX5 3).2.2.1 ∈ TG := inTG 261 (by decide +kernel) rfl
theorem wf_X5_23 : Cond.fieldLink RX5 23 (TX5 4).1 (TX5 4).2.1 (TX5 4).2.2.1 ∈ TG := inTG 262 (by decide +kernel) rfl
theorem wf_X5_27 : Cond.fieldLink RX5 27 (TX5 5).1 (TX5 5).2.1 (TX5 5).2.2.1 ∈ TG := inTG 263 (by decide +kernel) rfl
theorem wf_X1_25 : Cond.fieldLink RX1 25 (TX1 0).1 (TX1 0).2.1 (TX1 0).2.2.1 ∈ TG := inTG 288 (by decide +kernel) rfl
theorem wf_X1_12 : Cond.fieldLink RX1 12 (TX1 1).1 (TX1 1).2.1 (TX1 1).2.2.1 ∈ TG := inTG 289 (by decide +kernel) rfl
theorem wf_X1_18 : Cond.fieldLink RX1 18 (TX1 2).1 (TX1 2).2.1 (TX1 2).2.2.1 ∈ TG := inTG 290 (by decide +kernel) rfl
theorem wf_X9_202 : Cond.fieldLinkNest RX9 202 (TX1 2).1 (TX1 2).2.1 (TX1 2).2.2.1 "ClocksTold" ∈ TN := inTN 291 (by decide +kernel) rfl
theorem wf_X1_22 : Cond.fieldLink RX1 22 (TX1 3).1 (TX1 3).2.1 (TX1 3).2.2.1 ∈ TG := inTG 292 (by decide +kernel) rfl
theorem wf_X9_205 : Cond.fieldLinkNest RX9 205 (TX1 3).1 (TX1 3).2.1 (TX1 3).2.2.1 "ClocksTold" ∈ TN := inTN 293 (by decide +kernel) rfl
theorem wf_X4_28 : Cond.fieldLink RX4 28 (TX4 0).1 (TX4 0).2.1 (TX4 0).2.2.1 ∈ TG := inTG 312 (by decide +kernel) rfl
theorem wf_X4_11 : Cond.fieldLink RX4 11 (TX4 1).1 (TX4 1).2.1 (TX4 1).2.2.1 ∈ TG := inTG 313 (by decide +kernel) rfl
theorem wf_X4_17 : Cond.fieldLink RX4 17 (TX4 2).1 (TX4 2).2.1 (TX4 2).2.2.1 ∈ TG := inTG 314 (by decide +kernel) rfl
theorem wf_X4_21 : Cond.fieldLink RX4 21 (TX4 3).1 (TX4 3).2.1 (TX4 3).2.2.1 ∈ TG := inTG 315 (by decide +kernel) rfl
theorem wf_X9_177 : Cond.fieldLinkNest RX9 177 (TX4 3).1 (TX4 3).2.1 (TX4 3).2.2.1 "ClocksTold" ∈ TN := inTN 316 (by decide +kernel) rfl
theorem wf_X4_24 : Cond.fieldLink RX4 24 (TX4 4).1 (TX4 4).2.1 (TX4 4).2.2.1 ∈ TG := inTG 317 (by decide +kernel) rfl
theorem wf_X9_174 : Cond.fieldLinkNest RX9 174 (TX4 4).1 (TX4 4).2.1 (TX4 4).2.2.1 "ClocksTold" ∈ TN := inTN 318 (by decide +kernel) rfl
theorem wf_X0_11 : Cond.fieldLink RX0 11 (TX0 0).1 (TX0 0).2.1 (TX0 0).2.2.1 ∈ TG := inTG 336 (by decide +kernel) rfl
theorem wf_X9_263 : Cond.fieldLinkNest RX9 263 (TX0 0).1 (TX0 0).2.1 (TX0 0).2.2.1 "ClocksTold" ∈ TN := inTN 337 (by decide +kernel) rfl
theorem wf_X0_15 : Cond.fieldLink RX0 15 (TX0 1).1 (TX0 1).2.1 (TX0 1).2.2.1 ∈ TG := inTG 338 (by decide +kernel) rfl
theorem wf_X9_251 : Cond.fieldLinkNest RX9 251 (TX0 1).1 (TX0 1).2.1 (TX0 1).2.2.1 "ClocksTold" ∈ TN := inTN 339 (by decide +kernel) rfl
theorem wf_X0_19 : Cond.fieldLink RX0 19 (TX0 2).1 (TX0 2).2.1 (TX0 2).2.2.1 ∈ TG := inTG 340 (by decide +kernel) rfl
theorem wf_X0_22 : Cond.fieldLink RX0 22 (TX0 3).1 (TX0 3).2.1 (TX0 3).2.2.1 ∈ TG := inTG 341 (by decide +kernel) rfl
theorem wf_X0_25 : Cond.fieldLink RX0 25 (TX0 4).1 (TX0 4).2.1 (TX0 4).2.2.1 ∈ TG := inTG 342 (by decide +kernel) rfl
theorem wf_X2_9 : Cond.fieldLink RX2 9 (TX2 0).1 (TX2 0).2.1 (TX2 0).2.2.1 ∈ TG := inTG 361 (by decide +kernel) rfl
theorem wf_X7_85 : Cond.fieldLinkNest RX7 85 (TX2 0).1 (TX2 0).2.1 (TX2 0).2.2.1 "ClocksTold" ∈ TN := inTN 362 (by decide +kernel) rfl
theorem wf_X5_70 : Cond.fieldLinkNest RX5 70 (TX2 0).1 (TX2 0).2.1 (TX2 0).2.2.1 "ClocksTold" ∈ TN := inTN 363 (by decide +kernel) rfl
theorem wf_X2_13 : Cond.fieldLink RX2 13 (TX2 1).1 (TX2 1).2.1 (TX2 1).2.2.1 ∈ TG := inTG 364 (by decide +kernel) rfl
theorem wf_X2_16 : Cond.fieldLink RX2 16 (TX2 2).1 (TX2 2).2.1 (TX2 2).2.2.1 ∈ TG := inTG 365 (by decide +kernel) rfl
theorem wf_X2_20 : Cond.fieldLink RX2 20 (TX2 3).1 (TX2 3).2.1 (TX2 3).2.2.1 ∈ TG := inTG 366 (by decide +kernel) rfl
theorem wf_X2_23 : Cond.fieldLink RX2 23 (TX2 4).1 (TX2 4).2.1 (TX2 4).2.2.1 ∈ TG := inTG 367 (by decide +kernel) rfl
theorem wf_X2_26 : Cond.fieldLink RX2 26 (TX2 5).1 (TX2 5).2.1 (TX2 5).2.2.1 ∈ TG := inTG 368 (by decide +kernel) rfl
theorem wf_X8_9 : Cond.fieldLink RX8 9 (TX8 0).1 (TX8 0).2.1 (TX8 0).2.2.1 ∈ TG := inTG 387 (by decide +kernel) rfl
theorem wf_X9_238 : Cond.fieldLinkNest RX9 238 (TX8 0).1 (TX8 0).2.1 (TX8 0).2.2.1 "ClocksTold" ∈ TN := inTN 388 (by decide +kernel) rfl
theorem wf_X8_13 : Cond.fieldLink RX8 13 (TX8 1).1 (TX8 1).2.1 (TX8 1).2.2.1 ∈ TG := inTG 389 (by decide +kernel) rfl
theorem wf_X8_16 : Cond.fieldLink RX8 16 (TX8 2).1 (TX8 2).2.1 (TX8 2).2.2.1 ∈ TG := inTG 390 (by decide +kernel) rfl
theorem wf_X9_244 : Cond.fieldLinkNest RX9 244 (TX8 2).1 (TX8 2).2.1 (TX8 2).2.2.1 "ClocksTold" ∈ TN := inTN 391 (by decide +kernel) rfl
theorem wf_X9_12 : Cond.fieldLink RX9 12 (TX9 0).1 (TX9 0).2.1 (TX9 0).2.2.1 ∈ TG := inTG 400 (by decide +kernel) rfl
theorem wf_X9_18 : Cond.fieldLink RX9 18 (TX9 1).1 (TX9 1).2.1 (TX9 1).2.2.1 ∈ TG := inTG 401 (by decide +kernel) rfl
theorem wf_X9_21 : Cond.fieldLink RX9 21 (TX9 2).1 (TX9 2).2.1 (TX9 2).2.2.1 ∈ TG := inTG 402 (by decide +kernel) rfl
theorem wf_X9_28 : Cond.fieldLink RX9 28 (TX9 3).1 (TX9 3).2.1 (TX9 3).2.2.1 ∈ TG := inTG 403 (by decide +kernel) rfl
theorem wf_X9_34 : Cond.fieldLink RX9 34 (TX9 4).1 (TX9 4).2.1 (TX9 4).2.2.1 ∈ TG := inTG 404 (by decide +kernel) rfl
theorem wf_X9_38 : Cond.fieldLink RX9 38 (TX9 5).1 (TX9 5).2.1 (TX9 5).2.2.1 ∈ TG := inTG 405 (by decide +kernel) rfl
theorem wf_X9_47 : Cond.fieldLink RX9 47 (TX9 6).1 (TX9 6).2.1 (TX9 6).2.2.1 ∈ TG := inTG 406 (by decide +kernel) rfl
theorem wf_X9_54 : Cond.fieldLink RX9 54 (TX9 7).1 (TX9 7).2.1 (TX9 7).2.2.1 ∈ TG := inTG 407 (by decide +kernel) rfl
theorem wf_X9_61 : Cond.fieldLink RX9 61 (TX9 8).1 (TX9 8).2.1 (TX9 8).2.2.1 ∈ TG := inTG 408 (by decide +kernel) rfl
theorem wf_X9_67 : Cond.fieldLink RX9 67 (TX9 9).1 (TX9 9).2.1 (TX9 9).2.2.1 ∈ TG := inTG 409 (by decide +kernel) rfl
theorem wf_X0_43 : Cond.fieldLink RX0 43 RX0 "BODIES" "[I" ∈ TG := inTG 945 (by decide +kernel) rfl
theorem wf_X0_40 : Cond.fieldLinkNest RX0 40 RX9 "ABOVE" "[I" "ClocksTold" ∈ TN := inTN 947 (by decide +kernel) rfl
theorem wf_X9_287 : Cond.fieldLink RX9 287 RX9 "ABOVE" "[I" ∈ TG := inTG 965 (by decide +kernel) rfl
theorem wf_X10_7 : Cond.fieldLink RX10 7 (TX10 0).1 (TX10 0).2.1 (TX10 0).2.2.1 ∈ TG := inTG 1008 (by decide +kernel) rfl
theorem wf_X10_13 : Cond.fieldLink RX10 13 (TX10 1).1 (TX10 1).2.1 (TX10 1).2.2.1 ∈ TG := inTG 1009 (by decide +kernel) rfl
theorem wf_X10_16 : Cond.fieldLink RX10 16 (TX10 2).1 (TX10 2).2.1 (TX10 2).2.2.1 ∈ TG := inTG 1010 (by decide +kernel) rfl
theorem wf_X10_19 : Cond.fieldLink RX10 19 (TX10 3).1 (TX10 3).2.1 (TX10 3).2.2.1 ∈ TG := inTG 1011 (by decide +kernel) rfl
theorem wf_X10_23 : Cond.fieldLink RX10 23 (TX10 4).1 (TX10 4).2.1 (TX10 4).2.2.1 ∈ TG := inTG 1012 (by decide +kernel) rfl
theorem wf_X10_26 : Cond.fieldLink RX10 26 (TX10 5).1 (TX10 5).2.1 (TX10 5).2.2.1 ∈ TG := inTG 1013 (by decide +kernel) rfl
theorem wf_X10_29 : Cond.fieldLink RX10 29 (TX10 6).1 (TX10 6).2.1 (TX10 6).2.2.1 ∈ TG := inTG 1014 (by decide +kernel) rfl
theorem wf_X10_32 : Cond.fieldLink RX10 32 (TX10 7).1 (TX10 7).2.1 (TX10 7).2.2.1 ∈ TG := inTG 1015 (by decide +kernel) rfl
theorem wf_X10_35 : Cond.fieldLink RX10 35 (TX10 8).1 (TX10 8).2.1 (TX10 8).2.2.1 ∈ TG := inTG 1016 (by decide +kernel) rfl
theorem wf_X10_38 : Cond.fieldLink RX10 38 (TX10 9).1 (TX10 9).2.1 (TX10 9).2.2.1 ∈ TG := inTG 1017 (by decide +kernel) rfl
theorem wf_X10_41 : Cond.fieldLink RX10 41 (TX10 10).1 (TX10 10).2.1 (TX10 10).2.2.1 ∈ TG := inTG 1018 (by decide +kernel) rfl
theorem wf_X10_44 : Cond.fieldLink RX10 44 (TX10 11).1 (TX10 11).2.1 (TX10 11).2.2.1 ∈ TG := inTG 1019 (by decide +kernel) rfl
theorem wf_X10_47 : Cond.fieldLink RX10 47 (TX10 12).1 (TX10 12).2.1 (TX10 12).2.2.1 ∈ TG := inTG 1020 (by decide +kernel) rfl
theorem wf_X10_50 : Cond.fieldLink RX10 50 (TX10 13).1 (TX10 13).2.1 (TX10 13).2.2.1 ∈ TG := inTG 1021 (by decide +kernel) rfl
theorem wf_X10_53 : Cond.fieldLink RX10 53 (TX10 14).1 (TX10 14).2.1 (TX10 14).2.2.1 ∈ TG := inTG 1022 (by decide +kernel) rfl
theorem wf_X10_56 : Cond.fieldLink RX10 56 (TX10 15).1 (TX10 15).2.1 (TX10 15).2.2.1 ∈ TG := inTG 1023 (by decide +kernel) rfl
theorem wf_X10_59 : Cond.fieldLink RX10 59 (TX10 16).1 (TX10 16).2.1 (TX10 16).2.2.1 ∈ TG := inTG 1024 (by decide +kernel) rfl
theorem wf_X10_62 : Cond.fieldLink RX10 62 (TX10 17).1 (TX10 17).2.1 (TX10 17).2.2.1 ∈ TG := inTG 1025 (by decide +kernel) rfl
theorem wf_X10_65 : Cond.fieldLink RX10 65 (TX10 18).1 (TX10 18).2.1 (TX10 18).2.2.1 ∈ TG := inTG 1026 (by decide +kernel) rfl
theorem wf_X10_68 : Cond.fieldLink RX10 68 (TX10 19).1 (TX10 19).2.1 (TX10 19).2.2.1 ∈ TG := inTG 1027 (by decide +kernel) rfl
theorem wf_X10_71 : Cond.fieldLink RX10 71 (TX10 20).1 (TX10 20).2.1 (TX10 20).2.2.1 ∈ TG := inTG 1028 (by decide +kernel) rfl
theorem wf_X10_74 : Cond.fieldLink RX10 74 (TX10 21).1 (TX10 21).2.1 (TX10 21).2.2.1 ∈ TG := inTG 1029 (by decide +kernel) rfl
theorem wf_X10_77 : Cond.fieldLink RX10 77 (TX10 22).1 (TX10 22).2.1 (TX10 22).2.2.1 ∈ TG := inTG 1030 (by decide +kernel) rfl
theorem wf_X10_80 : Cond.fieldLink RX10 80 (TX10 23).1 (TX10 23).2.1 (TX10 23).2.2.1 ∈ TG := inTG 1031 (by decide +kernel) rfl
theorem wf_X10_83 : Cond.fieldLink RX10 83 (TX10 24).1 (TX10 24).2.1 (TX10 24).2.2.1 ∈ TG := inTG 1032 (by decide +kernel) rfl
theorem wf_X10_87 : Cond.fieldLink RX10 87 (TX10 25).1 (TX10 25).2.1 (TX10 25).2.2.1 ∈ TG := inTG 1033 (by decide +kernel) rfl
theorem wf_X10_91 : Cond.fieldLink RX10 91 (TX10 26).1 (TX10 26).2.1 (TX10 26).2.2.1 ∈ TG := inTG 1034 (by decide +kernel) rfl
theorem wf_X10_94 : Cond.fieldLink RX10 94 (TX10 27).1 (TX10 27).2.1 (TX10 27).2.2.1 ∈ TG := inTG 1035 (by decide +kernel) rfl
theorem wf_X10_97 : Cond.fieldLink RX10 97 (TX10 28).1 (TX10 28).2.1 (TX10 28).2.2.1 ∈ TG := inTG 1036 (by decide +kernel) rfl
theorem wf_X10_100 : Cond.fieldLink RX10 100 (TX10 29).1 (TX10 29).2.1 (TX10 29).2.2.1 ∈ TG := inTG 1037 (by decide +kernel) rfl
theorem wf_X10_103 : Cond.fieldLink RX10 103 (TX10 30).1 (TX10 30).2.1 (TX10 30).2.2.1 ∈ TG := inTG 1038 (by decide +kernel) rfl
theorem wf_X10_106 : Cond.fieldLink RX10 106 (TX10 31).1 (TX10 31).2.1 (TX10 31).2.2.1 ∈ TG := inTG 1039 (by decide +kernel) rfl
theorem wf_X10_109 : Cond.fieldLink RX10 109 (TX10 32).1 (TX10 32).2.1 (TX10 32).2.2.1 ∈ TG := inTG 1040 (by decide +kernel) rfl
theorem wf_X10_112 : Cond.fieldLink RX10 112 (TX10 33).1 (TX10 33).2.1 (TX10 33).2.2.1 ∈ TG := inTG 1041 (by decide +kernel) rfl
theorem wf_X10_115 : Cond.fieldLink RX10 115 (TX10 34).1 (TX10 34).2.1 (TX10 34).2.2.1 ∈ TG := inTG 1042 (by decide +kernel) rfl
theorem wf_X10_118 : Cond.fieldLink RX10 118 (TX10 35).1 (TX10 35).2.1 (TX10 35).2.2.1 ∈ TG := inTG 1043 (by decide +kernel) rfl
theorem wf_X10_121 : Cond.fieldLink RX10 121 (TX10 36).1 (TX10 36).2.1 (TX10 36).2.2.1 ∈ TG := inTG 1044 (by decide +kernel) rfl
theorem wf_X10_124 : Cond.fieldLink RX10 124 (TX10 37).1 (TX10 37).2.1 (TX10 37).2.2.1 ∈ TG := inTG 1045 (by decide +kernel) rfl
theorem wf_X10_127 : Cond.fieldLink RX10 127 (TX10 38).1 (TX10 38).2.1 (TX10 38).2.2.1 ∈ TG := inTG 1046 (by decide +kernel) rfl
theorem wf_X10_130 : Cond.fieldLink RX10 130 (TX10 39).1 (TX10 39).2.1 (TX10 39).2.2.1 ∈ TG := inTG 1047 (by decide +kernel) rfl
theorem wf_X10_133 : Cond.fieldLink RX10 133 (TX10 40).1 (TX10 40).2.1 (TX10 40).2.2.1 ∈ TG := inTG 1048 (by decide +kernel) rfl
theorem wf_X10_136 : Cond.fieldLink RX10 136 (TX10 41).1 (TX10 41).2.1 (TX10 41).2.2.1 ∈ TG := inTG 1049 (by decide +kernel) rfl
theorem wf_X10_139 : Cond.fieldLink RX10 139 (TX10 42).1 (TX10 42).2.1 (TX10 42).2.2.1 ∈ TG := inTG 1050 (by decide +kernel) rfl
theorem wf_X10_142 : Cond.fieldLink RX10 142 (TX10 43).1 (TX10 43).2.1 (TX10 43).2.2.1 ∈ TG := inTG 1051 (by decide +kernel) rfl
theorem wf_X10_145 : Cond.fieldLink RX10 145 (TX10 44).1 (TX10 44).2.1 (TX10 44).2.2.1 ∈ TG := inTG 1052 (by decide +kernel) rfl
theorem wf_X10_148 : Cond.fieldLink RX10 148 (TX10 45).1 (TX10 45).2.1 (TX10 45).2.2.1 ∈ TG := inTG 1053 (by decide +kernel) rfl
theorem wf_X10_151 : Cond.fieldLink RX10 151 (TX10 46).1 (TX10 46).2.1 (TX10 46).2.2.1 ∈ TG := inTG 1054 (by decide +kernel) rfl
theorem wf_X10_154 : Cond.fieldLink RX10 154 (TX10 47).1 (TX10 47).2.1 (TX10 47).2.2.1 ∈ TG := inTG 1055 (by decide +kernel) rfl
theorem wf_X10_157 : Cond.fieldLink RX10 157 (TX10 48).1 (TX10 48).2.1 (TX10 48).2.2.1 ∈ TG := inTG 1056 (by decide +kernel) rfl
theorem wf_X10_160 : Cond.fieldLink RX10 160 (TX10 49).1 (TX10 49).2.1 (TX10 49).2.2.1 ∈ TG := inTG 1057 (by decide +kernel) rfl
theorem wf_X10_163 : Cond.fieldLink RX10 163 (TX10 50).1 (TX10 50).2.1 (TX10 50).2.2.1 ∈ TG := inTG 1058 (by decide +kernel) rfl
theorem wf_X10_166 : Cond.fieldLink RX10 166 (TX10 51).1 (TX10 51).2.1 (TX10 51).2.2.1 ∈ TG := inTG 1059 (by decide +kernel) rfl
theorem wf_X10_169 : Cond.fieldLink RX10 169 (TX10 52).1 (TX10 52).2.1 (TX10 52).2.2.1 ∈ TG := inTG 1060 (by decide +kernel) rfl
theorem wf_X10_172 : Cond.fieldLink RX10 172 (TX10 53).1 (TX10 53).2.1 (TX10 53).2.2.1 ∈ TG := inTG 1061 (by decide +kernel) rfl
theorem wf_X10_175 : Cond.fieldLink RX10 175 (TX10 54).1 (TX10 54).2.1 (TX10 54).2.2.1 ∈ TG := inTG 1062 (by decide +kernel) rfl
theorem wf_X10_178 : Cond.fieldLink RX10 178 (TX10 55).1 (TX10 55).2.1 (TX10 55).2.2.1 ∈ TG := inTG 1063 (by decide +kernel) rfl
theorem wf_X10_181 : Cond.fieldLink RX10 181 (TX10 56).1 (TX10 56).2.1 (TX10 56).2.2.1 ∈ TG := inTG 1064 (by decide +kernel) rfl
theorem wf_X10_184 : Cond.fieldLink RX10 184 (TX10 57).1 (TX10 57).2.1 (TX10 57).2.2.1 ∈ TG := inTG 1065 (by decide +kernel) rfl
theorem wf_X10_187 : Cond.fieldLink RX10 187 (TX10 58).1 (TX10 58).2.1 (TX10 58).2.2.1 ∈ TG := inTG 1066 (by decide +kernel) rfl
theorem wf_X10_190 : Cond.fieldLink RX10 190 (TX10 59).1 (TX10 59).2.1 (TX10 59).2.2.1 ∈ TG := inTG 1067 (by decide +kernel) rfl
theorem wf_X10_193 : Cond.fieldLink RX10 193 (TX10 60).1 (TX10 60).2.1 (TX10 60).2.2.1 ∈ TG := inTG 1068 (by decide +kernel) rfl
theorem wf_X10_196 : Cond.fieldLink RX10 196 (TX10 61).1 (TX10 61).2.1 (TX10 61).2.2.1 ∈ TG := inTG 1069 (by decide +kernel) rfl
theorem wf_X10_199 : Cond.fieldLink RX10 199 (TX10 62).1 (TX10 62).2.1 (TX10 62).2.2.1 ∈ TG := inTG 1070 (by decide +kernel) rfl
theorem wf_X10_202 : Cond.fieldLink RX10 202 (TX10 63).1 (TX10 63).2.1 (TX10 63).2.2.1 ∈ TG := inTG 1071 (by decide +kernel) rfl
theorem wf_X10_205 : Cond.fieldLink RX10 205 (TX10 64).1 (TX10 64).2.1 (TX10 64).2.2.1 ∈ TG := inTG 1072 (by decide +kernel) rfl
theorem wf_X10_209 : Cond.fieldLink RX10 209 (TX10 65).1 (TX10 65).2.1 (TX10 65).2.2.1 ∈ TG := inTG 1073 (by decide +kernel) rfl
theorem wm_L_9 : Cond.methodLink RL 9 yX9_init ∈ TG := inTG 143 (by decide +kernel) rfl
theorem wm_X9_3 : Cond.methodLink RX9 3 Jvm.Lib.objectInit ∈ TG := inTG 146 (by decide +kernel) rfl
theorem wm_X9_11 : Cond.methodLinkNest RX9 11 yX7_init "ClocksTold" ∈ TN := inTN 151 (by decide +kernel) rfl
theorem wm_X7_5 : Cond.methodLink RX7 5 Jvm.Lib.objectInit ∈ TG := inTG 154 (by decide +kernel) rfl
theorem wm_X7_30 : Cond.methodLinkNest RX7 30 yX3_init "ClocksTold" ∈ TN := inTN 157 (by decide +kernel) rfl
theorem wm_X3_3 : Cond.methodLink RX3 3 Jvm.Lib.objectInit ∈ TG := inTG 160 (by decide +kernel) rfl
theorem wm_X7_37 : Cond.methodLinkNest RX7 37 yX6_init "ClocksTold" ∈ TN := inTN 185 (by decide +kernel) rfl
theorem wm_X6_3 : Cond.methodLink RX6 3 Jvm.Lib.objectInit ∈ TG := inTG 188 (by decide +kernel) rfl
theorem wm_X9_27 : Cond.methodLinkNest RX9 27 yX5_init "ClocksTold" ∈ TN := inTN 252 (by decide +kernel) rfl
theorem wm_X5_1 : Cond.methodLink RX5 1 Jvm.Lib.objectInit ∈ TG := inTG 255 (by decide +kernel) rfl
theorem wm_X9_44 : Cond.methodLinkNest RX9 44 yX1_init "ClocksTold" ∈ TN := inTN 282 (by decide +kernel) rfl
theorem wm_X1_3 : Cond.methodLink RX1 3 Jvm.Lib.objectInit ∈ TG := inTG 285 (by decide +kernel) rfl
theorem wm_X1_11 : Cond.methodLinkNest RX1 11 yX3_init "ClocksTold" ∈ TN := inTN 287 (by decide +kernel) rfl
theorem wm_X9_53 : Cond.methodLinkNest RX9 53 yX4_init "ClocksTold" ∈ TN := inTN 305 (by decide +kernel) rfl
theorem wm_X4_3 : Cond.methodLink RX4 3 Jvm.Lib.objectInit ∈ TG := inTG 308 (by decide +kernel) rfl
theorem wm_X4_32 : Cond.methodLinkNest RX4 32 yX3_init "ClocksTold" ∈ TN := inTN 311 (by decide +kernel) rfl
theorem wm_X9_60 : Cond.methodLinkNest RX9 60 yX0_init "ClocksTold" ∈ TN := inTN 332 (by decide +kernel) rfl
theorem wm_X0_3 : Cond.methodLink RX0 3 Jvm.Lib.objectInit ∈ TG := inTG 335 (by decide +kernel) rfl
theorem wm_X9_71 : Cond.methodLinkNest RX9 71 yX2_init "ClocksTold" ∈ TN := inTN 357 (by decide +kernel) rfl
theorem wm_X2_1 : Cond.methodLink RX2 1 Jvm.Lib.objectInit ∈ TG := inTG 360 (by decide +kernel) rfl
theorem wm_X9_72 : Cond.methodLinkNest RX9 72 yX8_init "ClocksTold" ∈ TN := inTN 383 (by decide +kernel) rfl
theorem wm_X8_1 : Cond.methodLink RX8 1 Jvm.Lib.objectInit ∈ TG := inTG 386 (by decide +kernel) rfl
theorem wm_L_13 : Cond.methodLink RL 13 yX9_clock ∈ TG := inTG 431 (by decide +kernel) rfl
theorem wm_X9_73 : Cond.methodLink RX9 73 yX9_within ∈ TG := inTG 435 (by decide +kernel) rfl
theorem wm_X9_89 : Cond.methodLinkNest RX9 89 yX7_enter "ClocksTold" ∈ TN := inTN 438 (by decide +kernel) rfl
theorem wm_X7_80 : Cond.methodLink RX7 80 yX7_learn ∈ TG := inTG 442 (by decide +kernel) rfl
theorem wm_X7_88 : Cond.methodLinkNest RX7 88 yX2_newsBy "ClocksTold" ∈ TN := inTN 446 (by decide +kernel) rfl
theorem wm_X2_29 : Cond.methodLink RX2 29 yX2_isTrue ∈ TG := inTG 450 (by decide +kernel) rfl
theorem wm_X2_39 : Cond.methodLink RX2 39 yX2_passes ∈ TG := inTG 454 (by decide +kernel) rfl
theorem wm_X2_33 : Cond.methodLink RX2 33 Lib.Math.max.name ∈ TG := inTG 457 (by decide +kernel) rfl
theorem wm_L_18 : Cond.methodLink RL 18 yX9_of ∈ TG := inTG 460 (by decide +kernel) rfl
theorem wm_X9_93 : Cond.methodLink RX9 93 yX9_isClock ∈ TG := inTG 464 (by decide +kernel) rfl
theorem wm_X9_111 : Cond.methodLinkNest RX9 111 yX7_leftOf "ClocksTold" ∈ TN := inTN 468 (by decide +kernel) rfl
theorem wm_X7_92 : Cond.methodLink RX7 92 yX7_newsAhead ∈ TG := inTG 472 (by decide +kernel) rfl
theorem wm_X9_115 : Cond.methodLinkNest RX9 115 yX7_holds "ClocksTold" ∈ TN := inTN 476 (by decide +kernel) rfl
theorem wm_X7_104 : Cond.methodLink RX7 104 yX7_pace ∈ TG := inTG 480 (by decide +kernel) rfl
theorem wm_X7_107 : Cond.methodLink RX7 107 Lib.Math.max.name ∈ TG := inTG 484 (by decide +kernel) rfl
theorem wm_X9_119 : Cond.methodLinkNest RX9 119 yX1_minded "ClocksTold" ∈ TN := inTN 485 (by decide +kernel) rfl
theorem wm_X1_67 : Cond.methodLinkNest RX1 67 yX7_minds "ClocksTold" ∈ TN := inTN 489 (by decide +kernel) rfl
theorem wm_X7_112 : Cond.methodLink RX7 112 yX7_newsOf ∈ TG := inTG 493 (by decide +kernel) rfl
theorem wm_X9_123 : Cond.methodLinkNest RX9 123 yX1_whole "ClocksTold" ∈ TN := inTN 497 (by decide +kernel) rfl
theorem wm_X1_42 : Cond.methodLink RX1 42 yX1_begin ∈ TG := inTG 501 (by decide +kernel) rfl
theorem wm_X1_34 : Cond.methodLinkNest RX1 34 yX3_copyFrom "ClocksTold" ∈ TN := inTN 505 (by decide +kernel) rfl
theorem wm_X1_60 : Cond.methodLinkNest RX1 60 yX3_isUp "ClocksTold" ∈ TN := inTN 509 (by decide +kernel) rfl
theorem wm_X1_38 : Cond.methodLinkNest RX1 38 yX7_evening "ClocksTold" ∈ TN := inTN 513 (by decide +kernel) rfl
theorem wm_X7_115 : Cond.methodLink RX7 115 yX7_holds ∈ TG := inTG 517 (by decide +kernel) rfl
theorem wm_X7_118 : Cond.methodLink RX7 118 yX7_minds ∈ TG := inTG 518 (by decide +kernel) rfl
theorem wm_X7_122 : Cond.methodLink RX7 122 yX7_night ∈ TG := inTG 519 (by decide +kernel) rfl
theorem wm_X7_100 : Cond.methodLinkNest RX7 100 yX3_isUp "ClocksTold" ∈ TN := inTN 523 (by decide +kernel) rfl
theorem wm_L_23 : Cond.methodLink RL 23 yX9_news ∈ TG := inTG 524 (by decide +kernel) rfl
theorem wm_X9_126 : Cond.methodLinkNest RX9 126 yX7_newsOf "ClocksTold" ∈ TN := inTN 528 (by decide +kernel) rfl
theorem wm_L_27 : Cond.methodLink RL 27 yX9_set ∈ TG := inTG 529 (by decide +kernel) rfl
theorem wm_L_31 : Cond.methodLink RL 31 yX9_balk ∈ TG := inTG 533 (by decide +kernel) rfl
theorem wm_L_36 : Cond.methodLink RL 36 yX9_row ∈ TG := inTG 537 (by decide +kernel) rfl
theorem wm_L_40 : Cond.methodLink RL 40 yX9_feed ∈ TG := inTG 541 (by decide +kernel) rfl
theorem wm_X9_132 : Cond.methodLinkNest RX9 132 yX5_take "ClocksTold" ∈ TN := inTN 545 (by decide +kernel) rfl
theorem wm_L_45 : Cond.methodLink RL 45 yX9_bench ∈ TG := inTG 549 (by decide +kernel) rfl
theorem wm_X9_139 : Cond.methodLinkNest RX9 139 yX5_readInto "ClocksTold" ∈ TN := inTN 553 (by decide +kernel) rfl
theorem wm_X5_31 : Cond.methodLinkNest RX5 31 yX2_clear "ClocksTold" ∈ TN := inTN 557 (by decide +kernel) rfl
theorem wm_X5_36 : Cond.methodLink RX5 36 yX5_step ∈ TG := inTG 561 (by decide +kernel) rfl
theorem wm_X5_39 : Cond.methodLink RX5 39 yX5_clause ∈ TG := inTG 565 (by decide +kernel) rfl
theorem wm_X5_57 : Cond.methodLink RX5 57 yX5_word ∈ TG := inTG 570 (by decide +kernel) rfl
theorem wm_X5_42 : Cond.methodLink RX5 42 ⟨"java/lang/String", "length", "()I"⟩ ∈ TG := inTG 574 (by decide +kernel) rfl
theorem wm_X5_47 : Cond.methodLink RX5 47 ⟨"java/lang/String", "charAt", "(I)C"⟩ ∈ TG := inTG 584 (by decide +kernel) rfl
theorem wm_X5_51 : Cond.methodLink RX5 51 yX5_need ∈ TG := inTG 622 (by decide +kernel) rfl
theorem wm_X5_61 : Cond.methodLink RX5 61 yX5_number ∈ TG := inTG 626 (by decide +kernel) rfl
theorem wm_X5_83 : Cond.methodLink RX5 83 yX5_isDigit ∈ TG := inTG 630 (by decide +kernel) rfl
theorem wm_X5_64 : Cond.methodLink RX5 64 Lib.Math.max.name ∈ TG := inTG 634 (by decide +kernel) rfl
theorem wm_X5_76 : Cond.methodLink RX5 76 yX5_either ∈ TG := inTG 637 (by decide +kernel) rfl
theorem wm_X5_87 : Cond.methodLink RX5 87 yX5_both ∈ TG := inTG 641 (by decide +kernel) rfl
theorem wm_X5_93 : Cond.methodLink RX5 93 yX5_factor ∈ TG := inTG 645 (by decide +kernel) rfl
theorem wm_X5_90 : Cond.methodLinkNest RX5 90 yX2_addStep "ClocksTold" ∈ TN := inTN 649 (by decide +kernel) rfl
theorem wm_X5_98 : Cond.methodLink RX5 98 yX5_choice ∈ TG := inTG 654 (by decide +kernel) rfl
theorem wm_X5_108 : Cond.methodLink RX5 108 ⟨"java/lang/String", "indexOf", "(I)I"⟩ ∈ TG := inTG 658 (by decide +kernel) rfl
theorem wm_X5_104 : Cond.methodLinkNest RX5 104 yX2_testStep "ClocksTold" ∈ TN := inTN 716 (by decide +kernel) rfl
theorem wm_X5_80 : Cond.methodLinkNest RX5 80 yX2_addClause "ClocksTold" ∈ TN := inTN 719 (by decide +kernel) rfl
theorem wm_X9_146 : Cond.methodLinkNest RX9 146 yX7_hold "ClocksTold" ∈ TN := inTN 723 (by decide +kernel) rfl
theorem wm_L_50 : Cond.methodLink RL 50 yX9_told ∈ TG := inTG 727 (by decide +kernel) rfl
theorem wm_X9_150 : Cond.methodLinkNest RX9 150 yX7_pace "ClocksTold" ∈ TN := inTN 731 (by decide +kernel) rfl
theorem wm_X9_154 : Cond.methodLinkNest RX9 154 yX7_howManyUp "ClocksTold" ∈ TN := inTN 732 (by decide +kernel) rfl
theorem wm_X9_158 : Cond.methodLinkNest RX9 158 yX7_leftOfAll "ClocksTold" ∈ TN := inTN 736 (by decide +kernel) rfl
theorem wm_X7_96 : Cond.methodLink RX7 96 yX7_leftOf ∈ TG := inTG 740 (by decide +kernel) rfl
theorem wm_L_54 : Cond.methodLink RL 54 yX9_tell ∈ TG := inTG 741 (by decide +kernel) rfl
theorem wm_X9_161 : Cond.methodLinkNest RX9 161 yX7_evening "ClocksTold" ∈ TN := inTN 745 (by decide +kernel) rfl
theorem wm_L_58 : Cond.methodLink RL 58 yX9_pass ∈ TG := inTG 746 (by decide +kernel) rfl
theorem wm_X9_164 : Cond.methodLinkNest RX9 164 yX7_night "ClocksTold" ∈ TN := inTN 750 (by decide +kernel) rfl
theorem wm_L_62 : Cond.methodLink RL 62 yX9_on ∈ TG := inTG 751 (by decide +kernel) rfl
theorem wm_X9_168 : Cond.methodLinkNest RX9 168 yX1_behind "ClocksTold" ∈ TN := inTN 755 (by decide +kernel) rfl
theorem wm_X1_45 : Cond.methodLink RX1 45 yX1_tellOften ∈ TG := inTG 759 (by decide +kernel) rfl
theorem wm_X1_57 : Cond.methodLinkNest RX1 57 yX7_leftOf "ClocksTold" ∈ TN := inTN 763 (by decide +kernel) rfl
theorem wm_L_66 : Cond.methodLink RL 66 yX9_soonest ∈ TG := inTG 764 (by decide +kernel) rfl
theorem wm_X9_171 : Cond.methodLinkNest RX9 171 yX4_findOrder "ClocksTold" ∈ TN := inTN 768 (by decide +kernel) rfl
theorem wm_X4_39 : Cond.methodLinkNest RX4 39 yX3_copyFrom "ClocksTold" ∈ TN := inTN 772 (by decide +kernel) rfl
theorem wm_X4_43 : Cond.methodLink RX4 43 yX4_tryOrders ∈ TG := inTG 773 (by decide +kernel) rfl
theorem wm_X4_50 : Cond.methodLink RX4 50 yX4_keep ∈ TG := inTG 777 (by decide +kernel) rfl
theorem wm_X4_77 : Cond.methodLink RX4 77 arraycopyName ∈ TG := inTG 781 (by decide +kernel) rfl
theorem wm_X4_54 : Cond.methodLink RX4 54 yX4_turn ∈ TG := inTG 784 (by decide +kernel) rfl
theorem wm_X4_58 : Cond.methodLinkNest RX4 58 yX3_isUp "ClocksTold" ∈ TN := inTN 788 (by decide +kernel) rfl
theorem wm_X4_66 : Cond.methodLinkNest RX4 66 yX7_evening "ClocksTold" ∈ TN := inTN 789 (by decide +kernel) rfl
theorem wm_L_70 : Cond.methodLink RL 70 yX9_most ∈ TG := inTG 790 (by decide +kernel) rfl
theorem wm_X9_180 : Cond.methodLinkNest RX9 180 yX4_findRow "ClocksTold" ∈ TN := inTN 794 (by decide +kernel) rfl
theorem wm_X4_69 : Cond.methodLink RX4 69 yX4_tryRows ∈ TG := inTG 798 (by decide +kernel) rfl
theorem wm_X4_73 : Cond.methodLinkNest RX4 73 yX7_howManyUp "ClocksTold" ∈ TN := inTN 802 (by decide +kernel) rfl
theorem wm_L_74 : Cond.methodLink RL 74 yX9_next ∈ TG := inTG 803 (by decide +kernel) rfl
theorem wm_X9_184 : Cond.methodLinkNest RX9 184 yX1_bestNext "ClocksTold" ∈ TN := inTN 807 (by decide +kernel) rfl
theorem wm_X1_77 : Cond.methodLinkNest RX1 77 yX7_leftOfAll "ClocksTold" ∈ TN := inTN 812 (by decide +kernel) rfl
theorem wm_L_78 : Cond.methodLink RL 78 yX9_see ∈ TG := inTG 813 (by decide +kernel) rfl
theorem wm_X9_191 : Cond.methodLinkNest RX9 191 yX6_empty "ClocksTold" ∈ TN := inTN 817 (by decide +kernel) rfl
theorem wm_X9_196 : Cond.methodLinkNest RX9 196 yX6_put "ClocksTold" ∈ TN := inTN 821 (by decide +kernel) rfl
theorem wm_L_82 : Cond.methodLink RL 82 yX9_since ∈ TG := inTG 825 (by decide +kernel) rfl
theorem wm_X9_199 : Cond.methodLinkNest RX9 199 yX1_weighDays "ClocksTold" ∈ TN := inTN 829 (by decide +kernel) rfl
theorem wm_X1_100 : Cond.methodLink RX1 100 yX1_weighNothing ∈ TG := inTG 833 (by decide +kernel) rfl
theorem wm_X1_103 : Cond.methodLink RX1 103 yX1_weigh ∈ TG := inTG 837 (by decide +kernel) rfl
theorem wm_X1_90 : Cond.methodLinkNest RX1 90 yX6_cell "ClocksTold" ∈ TN := inTN 841 (by decide +kernel) rfl
theorem wm_X1_117 : Cond.methodLink RX1 117 yX1_isSo ∈ TG := inTG 845 (by decide +kernel) rfl
theorem wm_L_86 : Cond.methodLink RL 86 yX9_can ∈ TG := inTG 849 (by decide +kernel) rfl
theorem wm_X9_208 : Cond.methodLinkNest RX9 208 yX1_weighValues "ClocksTold" ∈ TN := inTN 853 (by decide +kernel) rfl
theorem wm_X1_110 : Cond.methodLinkNest RX1 110 yX7_learn "ClocksTold" ∈ TN := inTN 857 (by decide +kernel) rfl
theorem wm_L_90 : Cond.methodLink RL 90 yX9_odds ∈ TG := inTG 858 (by decide +kernel) rfl
theorem wm_X9_213 : Cond.methodLinkNest RX9 213 yX1_howManyUpBehind "ClocksTold" ∈ TN := inTN 863 (by decide +kernel) rfl
theorem wm_X9_216 : Cond.methodLink RX9 216 yX9_lowest ∈ TG := inTG 867 (by decide +kernel) rfl
theorem wm_X9_290 : Cond.methodLink RX9 290 yX9_commonDivisor ∈ TG := inTG 870 (by decide +kernel) rfl
theorem wm_L_95 : Cond.methodLink RL 95 yX9_mean ∈ TG := inTG 873 (by decide +kernel) rfl
theorem wm_L_100 : Cond.methodLink RL 100 yX9_month ∈ TG := inTG 877 (by decide +kernel) rfl
theorem wm_L_104 : Cond.methodLink RL 104 yX9_ends ∈ TG := inTG 881 (by decide +kernel) rfl
theorem wm_X9_223 : Cond.methodLinkNest RX9 223 yX1_monthEnds "ClocksTold" ∈ TN := inTN 885 (by decide +kernel) rfl
theorem wm_X1_94 : Cond.methodLinkNest RX1 94 yX7_night "ClocksTold" ∈ TN := inTN 889 (by decide +kernel) rfl
theorem wm_X1_97 : Cond.methodLinkNest RX1 97 yX7_howManyUp "ClocksTold" ∈ TN := inTN 890 (by decide +kernel) rfl
theorem wm_L_108 : Cond.methodLink RL 108 yX9_book ∈ TG := inTG 891 (by decide +kernel) rfl
theorem wm_L_112 : Cond.methodLink RL 112 yX9_looked ∈ TG := inTG 895 (by decide +kernel) rfl
theorem wm_X9_232 : Cond.methodLinkNest RX9 232 yX6_cell "ClocksTold" ∈ TN := inTN 899 (by decide +kernel) rfl
theorem wm_L_116 : Cond.methodLink RL 116 yX9_judge ∈ TG := inTG 900 (by decide +kernel) rfl
theorem wm_X9_235 : Cond.methodLink RX9 235 yX9_isTape ∈ TG := inTG 904 (by decide +kernel) rfl
theorem wm_X9_241 : Cond.methodLinkNest RX9 241 yX8_has "ClocksTold" ∈ TN := inTN 907 (by decide +kernel) rfl
theorem wm_L_120 : Cond.methodLink RL 120 yX9_image ∈ TG := inTG 911 (by decide +kernel) rfl
theorem wm_X9_248 : Cond.methodLinkNest RX9 248 yX7_copyFrom "ClocksTold" ∈ TN := inTN 915 (by decide +kernel) rfl
theorem wm_X7_57 : Cond.methodLink RX7 57 arraycopyName ∈ TG := inTG 919 (by decide +kernel) rfl
theorem wm_X7_63 : Cond.methodLinkNest RX7 63 yX3_copyFrom "ClocksTold" ∈ TN := inTN 920 (by decide +kernel) rfl
theorem wm_X7_67 : Cond.methodLinkNest RX7 67 yX6_copyFrom "ClocksTold" ∈ TN := inTN 921 (by decide +kernel) rfl
theorem wm_X6_22 : Cond.methodLink RX6 22 arraycopyName ∈ TG := inTG 925 (by decide +kernel) rfl
theorem wm_L_124 : Cond.methodLink RL 124 yX9_undo ∈ TG := inTG 926 (by decide +kernel) rfl
theorem wm_L_128 : Cond.methodLink RL 128 yX9_act ∈ TG := inTG 930 (by decide +kernel) rfl
theorem wm_X9_254 : Cond.methodLinkNest RX9 254 yX0_start "ClocksTold" ∈ TN := inTN 934 (by decide +kernel) rfl
theorem wm_X0_28 : Cond.methodLink RX0 28 yX0_run ∈ TG := inTG 938 (by decide +kernel) rfl
theorem wm_X0_32 : Cond.methodLink RX0 32 yX0_bodyFrom ∈ TG := inTG 942 (by decide +kernel) rfl
theorem wm_X0_36 : Cond.methodLink RX0 36 yX0_note ∈ TG := inTG 949 (by decide +kernel) rfl
theorem wm_L_132 : Cond.methodLink RL 132 yX9_trace ∈ TG := inTG 953 (by decide +kernel) rfl
theorem wm_X9_258 : Cond.methodLink RX9 258 Lib.Math.min.name ∈ TG := inTG 957 (by decide +kernel) rfl
theorem wm_L_136 : Cond.methodLink RL 136 yX9_taken ∈ TG := inTG 958 (by decide +kernel) rfl
theorem wm_X9_266 : Cond.methodLink RX9 266 yX9_isUnder ∈ TG := inTG 962 (by decide +kernel) rfl
theorem wm_L_140 : Cond.methodLink RL 140 yX9_count ∈ TG := inTG 966 (by decide +kernel) rfl
theorem wm_L_144 : Cond.methodLink RL 144 yX9_tape ∈ TG := inTG 970 (by decide +kernel) rfl
theorem wm_X9_270 : Cond.methodLinkNest RX9 270 yX8_become "ClocksTold" ∈ TN := inTN 974 (by decide +kernel) rfl
theorem wm_X8_20 : Cond.methodLink RX8 20 ⟨"java/util/Arrays", "fill", "([JJ)V"⟩ ∈ TG := inTG 978 (by decide +kernel) rfl
theorem wm_L_150 : Cond.methodLink RL 150 yX9_item ∈ TG := inTG 981 (by decide +kernel) rfl
theorem wm_X9_274 : Cond.methodLinkNest RX9 274 yX8_cut "ClocksTold" ∈ TN := inTN 985 (by decide +kernel) rfl
theorem wm_L_155 : Cond.methodLink RL 155 yX9_read ∈ TG := inTG 989 (by decide +kernel) rfl
theorem wm_L_159 : Cond.methodLink RL 159 yX9_shift ∈ TG := inTG 993 (by decide +kernel) rfl
theorem wm_X9_278 : Cond.methodLinkNest RX9 278 yX8_hasRun "ClocksTold" ∈ TN := inTN 997 (by decide +kernel) rfl
theorem wm_X9_281 : Cond.methodLink RX9 281 arraycopyName ∈ TG := inTG 1001 (by decide +kernel) rfl
theorem wm_L_12 : Cond.methodLink RL 12 yX10_init ∈ TG := inTG 1004 (by decide +kernel) rfl
theorem wm_X10_1 : Cond.methodLink RX10 1 Jvm.Lib.objectInit ∈ TG := inTG 1007 (by decide +kernel) rfl
theorem wm_L_17 : Cond.methodLink RL 17 yX10_clock ∈ TG := inTG 1207 (by decide +kernel) rfl
theorem wm_X10_212 : Cond.methodLink RX10 212 yX10_in ∈ TG := inTG 1211 (by decide +kernel) rfl
theorem wm_X10_216 : Cond.methodLink RX10 216 yX10_balks ∈ TG := inTG 1215 (by decide +kernel) rfl
theorem wm_L_30 : Cond.methodLink RL 30 yX10_set ∈ TG := inTG 1219 (by decide +kernel) rfl
theorem wm_X10_220 : Cond.methodLink RX10 220 yX10_isClock ∈ TG := inTG 1223 (by decide +kernel) rfl
theorem wm_L_35 : Cond.methodLink RL 35 yX10_balk ∈ TG := inTG 1227 (by decide +kernel) rfl
theorem wm_X10_224 : Cond.methodLink RX10 224 yX10_has ∈ TG := inTG 1231 (by decide +kernel) rfl
theorem wm_L_39 : Cond.methodLink RL 39 yX10_row ∈ TG := inTG 1235 (by decide +kernel) rfl
theorem wm_L_44 : Cond.methodLink RL 44 yX10_feed ∈ TG := inTG 1239 (by decide +kernel) rfl
theorem wm_L_49 : Cond.methodLink RL 49 yX10_bench ∈ TG := inTG 1243 (by decide +kernel) rfl
theorem wm_X10_271 : Cond.methodLink RX10 271 yX10_goesText ∈ TG := inTG 1247 (by decide +kernel) rfl
theorem wm_X10_268 : Cond.methodLink RX10 268 yX10_takesClause ∈ TG := inTG 1251 (by decide +kernel) rfl
theorem wm_X10_262 : Cond.methodLink RX10 262 yX10_takesHead ∈ TG := inTG 1255 (by decide +kernel) rfl
theorem wm_X10_228 : Cond.methodLink RX10 228 yX10_peek ∈ TG := inTG 1259 (by decide +kernel) rfl
theorem wm_X10_259 : Cond.methodLink RX10 259 yX10_takesWord ∈ TG := inTG 1263 (by decide +kernel) rfl
theorem wm_X10_232 : Cond.methodLink RX10 232 yX10_takes ∈ TG := inTG 1267 (by decide +kernel) rfl
theorem wm_X10_247 : Cond.methodLink RX10 247 yX10_takesNumber ∈ TG := inTG 1271 (by decide +kernel) rfl
theorem wm_X10_235 : Cond.methodLink RX10 235 yX10_isDigit ∈ TG := inTG 1275 (by decide +kernel) rfl
theorem wm_X10_265 : Cond.methodLink RX10 265 yX10_takesE ∈ TG := inTG 1279 (by decide +kernel) rfl
theorem wm_X10_253 : Cond.methodLink RX10 253 yX10_takesTest ∈ TG := inTG 1283 (by decide +kernel) rfl
theorem wm_X10_243 : Cond.methodLink RX10 243 yX10_place ∈ TG := inTG 1287 (by decide +kernel) rfl
theorem wm_X10_239 : Cond.methodLink RX10 239 yX10_emits ∈ TG := inTG 1291 (by decide +kernel) rfl
theorem wm_X10_250 : Cond.methodLink RX10 250 yX10_whole ∈ TG := inTG 1295 (by decide +kernel) rfl
theorem wm_X10_256 : Cond.methodLink RX10 256 yX10_settle ∈ TG := inTG 1299 (by decide +kernel) rfl
theorem wm_L_26 : Cond.methodLink RL 26 yX10_news ∈ TG := inTG 1303 (by decide +kernel) rfl
theorem wm_X10_291 : Cond.methodLink RX10 291 yX10_isDay ∈ TG := inTG 1307 (by decide +kernel) rfl
theorem wm_X10_294 : Cond.methodLink RX10 294 yX10_newsOf ∈ TG := inTG 1311 (by decide +kernel) rfl
theorem wm_X10_287 : Cond.methodLink RX10 287 yX10_newsNow ∈ TG := inTG 1315 (by decide +kernel) rfl
theorem wm_X10_274 : Cond.methodLink RX10 274 yX10_begin ∈ TG := inTG 1319 (by decide +kernel) rfl
theorem wm_X10_277 : Cond.methodLink RX10 277 yX10_behind ∈ TG := inTG 1323 (by decide +kernel) rfl
theorem wm_X10_284 : Cond.methodLink RX10 284 yX10_holds ∈ TG := inTG 1327 (by decide +kernel) rfl
theorem wm_X10_280 : Cond.methodLink RX10 280 yX10_factOf ∈ TG := inTG 1331 (by decide +kernel) rfl
theorem wm_L_57 : Cond.methodLink RL 57 yX10_tell ∈ TG := inTG 1335 (by decide +kernel) rfl
theorem wm_X10_315 : Cond.methodLink RX10 315 yX10_goEvening ∈ TG := inTG 1339 (by decide +kernel) rfl
theorem wm_X10_309 : Cond.methodLink RX10 309 yX10_holdsOf ∈ TG := inTG 1343 (by decide +kernel) rfl
theorem wm_X10_297 : Cond.methodLink RX10 297 yX10_pace ∈ TG := inTG 1347 (by decide +kernel) rfl
theorem wm_X10_306 : Cond.methodLink RX10 306 yX10_minds ∈ TG := inTG 1351 (by decide +kernel) rfl
theorem wm_X10_312 : Cond.methodLink RX10 312 yX10_goNight ∈ TG := inTG 1355 (by decide +kernel) rfl
theorem wm_X10_300 : Cond.methodLink RX10 300 yX10_isUp ∈ TG := inTG 1359 (by decide +kernel) rfl
theorem wm_L_61 : Cond.methodLink RL 61 yX10_pass ∈ TG := inTG 1363 (by decide +kernel) rfl
theorem wm_X10_318 : Cond.methodLink RX10 318 yX10_isEvenings ∈ TG := inTG 1367 (by decide +kernel) rfl
theorem wm_L_22 : Cond.methodLink RL 22 yX10_of ∈ TG := inTG 1371 (by decide +kernel) rfl
theorem wm_X10_303 : Cond.methodLink RX10 303 yX10_left ∈ TG := inTG 1375 (by decide +kernel) rfl
theorem wm_X10_327 : Cond.methodLink RX10 327 yX10_minded ∈ TG := inTG 1379 (by decide +kernel) rfl
theorem wm_X10_330 : Cond.methodLink RX10 330 yX10_whole_ ∈ TG := inTG 1383 (by decide +kernel) rfl
theorem wm_X10_321 : Cond.methodLink RX10 321 yX10_save ∈ TG := inTG 1387 (by decide +kernel) rfl
theorem wm_X10_324 : Cond.methodLink RX10 324 yX10_putBack ∈ TG := inTG 1391 (by decide +kernel) rfl
theorem wm_L_53 : Cond.methodLink RL 53 yX10_told ∈ TG := inTG 1395 (by decide +kernel) rfl
theorem wm_X10_332 : Cond.methodLink RX10 332 yX10_upMany ∈ TG := inTG 1399 (by decide +kernel) rfl
theorem wm_X10_335 : Cond.methodLink RX10 335 yX10_allLeft ∈ TG := inTG 1403 (by decide +kernel) rfl
theorem wm_L_65 : Cond.methodLink RL 65 yX10_on ∈ TG := inTG 1407 (by decide +kernel) rfl
theorem wm_X10_338 : Cond.methodLink RX10 338 yX10_goEvenings ∈ TG := inTG 1411 (by decide +kernel) rfl
theorem wm_L_69 : Cond.methodLink RL 69 yX10_soonest ∈ TG := inTG 1415 (by decide +kernel) rfl
theorem wm_X10_345 : Cond.methodLink RX10 345 yX10_layNews ∈ TG := inTG 1419 (by decide +kernel) rfl
theorem wm_X10_348 : Cond.methodLink RX10 348 yX10_layTurn ∈ TG := inTG 1423 (by decide +kernel) rfl
theorem wm_X10_351 : Cond.methodLink RX10 351 yX10_goTurn ∈ TG := inTG 1427 (by decide +kernel) rfl
theorem wm_X10_342 : Cond.methodLink RX10 342 yX10_goWhole ∈ TG := inTG 1431 (by decide +kernel) rfl
theorem wm_L_73 : Cond.methodLink RL 73 yX10_most ∈ TG := inTG 1435 (by decide +kernel) rfl
theorem wm_L_77 : Cond.methodLink RL 77 yX10_next ∈ TG := inTG 1439 (by decide +kernel) rfl
theorem wm_L_81 : Cond.methodLink RL 81 yX10_see ∈ TG := inTG 1443 (by decide +kernel) rfl
theorem wm_L_85 : Cond.methodLink RL 85 yX10_since ∈ TG := inTG 1447 (by decide +kernel) rfl
theorem wm_X10_354 : Cond.methodLink RX10 354 yX10_isSeen ∈ TG := inTG 1451 (by decide +kernel) rfl
theorem wm_L_89 : Cond.methodLink RL 89 yX10_can ∈ TG := inTG 1455 (by decide +kernel) rfl
theorem wm_L_94 : Cond.methodLink RL 94 yX10_odds ∈ TG := inTG 1459 (by decide +kernel) rfl
theorem wm_X10_362 : Cond.methodLink RX10 362 yX10_lowest ∈ TG := inTG 1464 (by decide +kernel) rfl
theorem wm_X10_357 : Cond.methodLink RX10 357 yX10_divisor ∈ TG := inTG 1468 (by decide +kernel) rfl
theorem wm_L_99 : Cond.methodLink RL 99 yX10_mean ∈ TG := inTG 1472 (by decide +kernel) rfl
theorem wm_L_103 : Cond.methodLink RL 103 yX10_month ∈ TG := inTG 1476 (by decide +kernel) rfl
theorem wm_L_107 : Cond.methodLink RL 107 yX10_ends ∈ TG := inTG 1480 (by decide +kernel) rfl
theorem wm_L_111 : Cond.methodLink RL 111 yX10_book ∈ TG := inTG 1484 (by decide +kernel) rfl
theorem wm_L_115 : Cond.methodLink RL 115 yX10_looked ∈ TG := inTG 1488 (by decide +kernel) rfl
theorem wm_L_119 : Cond.methodLink RL 119 yX10_judge ∈ TG := inTG 1492 (by decide +kernel) rfl
theorem wm_X10_366 : Cond.methodLink RX10 366 yX10_isTape ∈ TG := inTG 1496 (by decide +kernel) rfl
theorem wm_L_123 : Cond.methodLink RL 123 yX10_image ∈ TG := inTG 1500 (by decide +kernel) rfl
theorem wm_L_127 : Cond.methodLink RL 127 yX10_undo ∈ TG := inTG 1504 (by decide +kernel) rfl
theorem wm_L_131 : Cond.methodLink RL 131 yX10_act ∈ TG := inTG 1508 (by decide +kernel) rfl
theorem wm_X10_375 : Cond.methodLink RX10 375 yX10_ticksAct ∈ TG := inTG 1512 (by decide +kernel) rfl
theorem wm_X10_369 : Cond.methodLink RX10 369 yX10_body ∈ TG := inTG 1516 (by decide +kernel) rfl
theorem wm_X10_372 : Cond.methodLink RX10 372 yX10_clockTicks ∈ TG := inTG 1520 (by decide +kernel) rfl
theorem wm_X10_384 : Cond.methodLink RX10 384 yX10_strikesAct ∈ TG := inTG 1524 (by decide +kernel) rfl
theorem wm_X10_381 : Cond.methodLink RX10 381 yX10_fastStrikes ∈ TG := inTG 1528 (by decide +kernel) rfl
theorem wm_X10_378 : Cond.methodLink RX10 378 yX10_clockStrikes ∈ TG := inTG 1532 (by decide +kernel) rfl
theorem wm_X10_390 : Cond.methodLink RX10 390 yX10_tellsAct ∈ TG := inTG 1536 (by decide +kernel) rfl
theorem wm_X10_387 : Cond.methodLink RX10 387 yX10_clockTells ∈ TG := inTG 1540 (by decide +kernel) rfl
theorem wm_L_135 : Cond.methodLink RL 135 yX10_trace ∈ TG := inTG 1544 (by decide +kernel) rfl
theorem wm_L_139 : Cond.methodLink RL 139 yX10_taken ∈ TG := inTG 1548 (by decide +kernel) rfl
theorem wm_L_143 : Cond.methodLink RL 143 yX10_count ∈ TG := inTG 1552 (by decide +kernel) rfl
theorem wm_L_147 : Cond.methodLink RL 147 yX10_tape ∈ TG := inTG 1556 (by decide +kernel) rfl
theorem wm_L_154 : Cond.methodLink RL 154 yX10_item ∈ TG := inTG 1560 (by decide +kernel) rfl
theorem wm_X10_393 : Cond.methodLink RX10 393 yX10_narrow ∈ TG := inTG 1564 (by decide +kernel) rfl
theorem wm_L_158 : Cond.methodLink RL 158 yX10_read ∈ TG := inTG 1568 (by decide +kernel) rfl
theorem wm_L_163 : Cond.methodLink RL 163 yX10_shift ∈ TG := inTG 1572 (by decide +kernel) rfl
theorem mw_X9_init : MWI yX9_init cX9_init 2 none 0 := ⟨⟨inTG 145 (by decide +kernel) rfl, inTG 122 (by decide +kernel) rfl, ⟨by decide +kernel, by decide +kernel⟩, by decide +kernel⟩, rfl, inTG 144 (by decide +kernel) rfl⟩
theorem mw_X7_init : MWI yX7_init cX7_init 1 none 0 := ⟨⟨inTG 153 (by decide +kernel) rfl, inTG 123 (by decide +kernel) rfl, ⟨by decide +kernel, by decide +kernel⟩, by decide +kernel⟩, rfl, inTG 152 (by decide +kernel) rfl⟩
theorem mw_X3_init : MWI yX3_init cX3_init 1 none 0 := ⟨⟨inTG 159 (by decide +kernel) rfl, inTG 124 (by decide +kernel) rfl, ⟨by decide +kernel, by decide +kernel⟩, by decide +kernel⟩, rfl, inTG 158 (by decide +kernel) rfl⟩
theorem mw_X6_init : MWI yX6_init cX6_init 2 none 1 := ⟨⟨inTG 187 (by decide +kernel) rfl, inTG 125 (by decide +kernel) rfl, ⟨by decide +kernel, by decide +kernel⟩, by decide +kernel⟩, rfl, inTG 186 (by decide +kernel) rfl⟩
theorem mw_X5_init : MWI yX5_init cX5_init 1 none 0 := ⟨⟨inTG 254 (by decide +kernel) rfl, inTG 126 (by decide +kernel) rfl, ⟨by decide +kernel, by decide +kernel⟩, by decide +kernel⟩, rfl, inTG 253 (by decide +kernel) rfl⟩
theorem mw_X1_init : MWI yX1_init cX1_init 2 none 1 := ⟨⟨inTG 284 (by decide +kernel) rfl, inTG 127 (by decide +kernel) rfl, ⟨by decide +kernel, by decide +kernel⟩, by decide +kernel⟩, rfl, inTG 283 (by decide +kernel) rfl⟩
theorem mw_X4_init : MWI yX4_init cX4_init 3 none 1 := ⟨⟨inTG 307 (by decide +kernel) rfl, inTG 128 (by decide +kernel) rfl, ⟨by decide +kernel, by decide +kernel⟩, by decide +kernel⟩, rfl, inTG 306 (by decide +kernel) rfl⟩
theorem mw_X0_init : MWI yX0_init cX0_init 1 none 0 := ⟨⟨inTG 334 (by decide +kernel) rfl, inTG 129 (by decide +kernel) rfl, ⟨by decide +kernel, by decide +kernel⟩, by decide +kernel⟩, rfl, inTG 333 (by decide +kernel) rfl⟩
theorem mw_X2_init : MWI yX2_init cX2_init 1 none 0 := ⟨⟨inTG 359 (by decide +kernel) rfl, inTG 130 (by decide +kernel) rfl, ⟨by decide +kernel, by decide +kernel⟩, by decide +kernel⟩, rfl, inTG 358 (by decide +kernel) rfl⟩
theorem mw_X8_init : MWI yX8_init cX8_init 1 none 0 := ⟨⟨inTG 385 (by decide +kernel) rfl, inTG 131 (by decide +kernel) rfl, ⟨by decide +kernel, by decide +kernel⟩, by decide +kernel⟩, rfl, inTG 384 (by decide +kernel) rfl⟩
theorem mw_X9_clock : MWV yX9_clock cX9_clock 4 (some .int) 3 := ⟨⟨inTG 434 (by decide +kernel) rfl, inTG 122 (by decide +kernel) rfl, ⟨by decide +kernel, by decide +kernel⟩, by decide +kernel⟩, inTG 432 (by decide +kernel) rfl, inTG 433 (by decide +kernel) rfl⟩
theorem mw_X9_within : MWS yX9_within cX9_within 3 (some .boolean) 3 := ⟨⟨inTG 437 (by decide +kernel) rfl, inTG 122 (by decide +kernel) rfl, ⟨by decide +kernel, by decide +kernel⟩, by decide +kernel⟩, inTG 436 (by decide +kernel) rfl⟩
theorem mw_X7_enter : MWV yX7_enter cX7_enter 6 (some .int) 3 := ⟨⟨inTG 441 (by decide +kernel) rfl, inTG 123 (by decide +kernel) rfl, ⟨by decide +kernel, by decide +kernel⟩, by decide +kernel⟩, inTG 440 (by decide +kernel) rfl, inTG 0 (by decide +kernel) rfl⟩
theorem mw_X7_learn : MWV yX7_learn cX7_learn 5 none 1 := ⟨⟨inTG 445 (by decide +kernel) rfl, inTG 123 (by decide +kernel) rfl, ⟨by decide +kernel, by decide +kernel⟩, by decide +kernel⟩, inTG 444 (by decide +kernel) rfl, inTG 1 (by decide +kernel) rfl⟩
theorem mw_X2_newsBy : MWV yX2_newsBy cX2_newsBy 5 (some .int) 1 := ⟨⟨inTG 449 (by decide +kernel) rfl, inTG 130 (by decide +kernel) rfl, ⟨by decide +kernel, by decide +kernel⟩, by decide +kernel⟩, inTG 448 (by decide +kernel) rfl, inTG 2 (by decide +kernel) rfl⟩
theorem mw_X2_isTrue : MWV yX2_isTrue cX2_isTrue 7 (some .boolean) 3 := ⟨⟨inTG 453 (by decide +kernel) rfl, inTG 130 (by decide +kernel) rfl, ⟨by decide +kernel, by decide +kernel⟩, by decide +kernel⟩, inTG 452 (by decide +kernel) rfl, inTG 3 (by decide +kernel) rfl⟩
theorem mw_X2_passes : MWS yX2_passes cX2_passes 4 (some .boolean) 2 := ⟨⟨inTG 456 (by decide +kernel) rfl, inTG 130 (by decide +kernel) rfl, ⟨by decide +kernel, by decide +kernel⟩, by decide +kernel⟩, inTG 455 (by decide +kernel) rfl⟩
theorem mw_X9_of : MWV yX9_of cX9_of 3 (some .int) 2 := ⟨⟨inTG 463 (by decide +kernel) rfl, inTG 122 (by decide +kernel) rfl, ⟨by decide +kernel, by decide +kernel⟩, by decide +kernel⟩, inTG 461 (by decide +kernel) rfl, inTG 462 (by decide +kernel) rfl⟩
theorem mw_X9_isClock : MWV yX9_isClock cX9_isClock 2 (some .boolean) 1 := ⟨⟨inTG 467 (by decide +kernel) rfl, inTG 122 (by decide +kernel) rfl, ⟨by decide +kernel, by decide +kernel⟩, by decide +kernel⟩, inTG 466 (by decide +kernel) rfl, inTG 4 (by decide +kernel) rfl⟩
theorem mw_X7_leftOf : MWV yX7_leftOf cX7_leftOf 3 (some .int) 2 := ⟨⟨inTG 471 (by decide +kernel) rfl, inTG 123 (by decide +kernel) rfl, ⟨by decide +kernel, by decide +kernel⟩, by decide +kernel⟩, inTG 470 (by decide +kernel) rfl, inTG 5 (by decide +kernel) rfl⟩
theorem mw_X7_newsAhead : MWV yX7_newsAhead cX7_newsAhead 4 (some .int) 2 := ⟨⟨inTG 475 (by decide +kernel) rfl, inTG 123 (by decide +kernel) rfl, ⟨by decide +kernel, by decide +kernel⟩, by decide +kernel⟩, inTG 474 (by decide +kernel) rfl, inTG 6 (by decide +kernel) rfl⟩
theorem mw_X7_holds : MWV yX7_holds cX7_holds 4 (some .int) 2 := ⟨⟨inTG 479 (by decide +kernel) rfl, inTG 123 (by decide +kernel) rfl, ⟨by decide +kernel, by decide +kernel⟩, by decide +kernel⟩, inTG 478 (by decide +kernel) rfl, inTG 7 (by decide +kernel) rfl⟩
theorem mw_X7_pace : MWV yX7_pace cX7_pace 1 (some .int) 0 := ⟨⟨inTG 483 (by decide +kernel) rfl, inTG 123 (by decide +kernel) rfl, ⟨by decide +kernel, by decide +kernel⟩, by decide +kernel⟩, inTG 482 (by decide +kernel) rfl, inTG 8 (by decide +kernel) rfl⟩
theorem mw_X1_minded : MWV yX1_minded cX1_minded 3 (some .int) 1 := ⟨⟨inTG 488 (by decide +kernel) rfl, inTG 127 (by decide +kernel) rfl, ⟨by decide +kernel, by decide +kernel⟩, by decide +kernel⟩, inTG 487 (by decide +kernel) rfl, inTG 9 (by decide +kernel) rfl⟩
theorem mw_X7_minds : MWV yX7_minds cX7_minds 5 (some .boolean) 2 := ⟨⟨inTG 492 (by decide +kernel) rfl, inTG 123 (by decide +kernel) rfl, ⟨by decide +kernel, by decide +kernel⟩, by decide +kernel⟩, inTG 491 (by decide +kernel) rfl, inTG 10 (by decide +kernel) rfl⟩
theorem mw_X7_newsOf : MWV yX7_newsOf cX7_newsOf 4 (some .int) 2 := ⟨⟨inTG 496 (by decide +kernel) rfl, inTG 123 (by decide +kernel) rfl, ⟨by decide +kernel, by decide +kernel⟩, by decide +kernel⟩, inTG 495 (by decide +kernel) rfl, inTG 11 (by decide +kernel) rfl⟩
theorem mw_X1_whole : MWV yX1_whole cX1_whole 3 (some .int) 1 := ⟨⟨inTG 500 (by decide +kernel) rfl, inTG 127 (by decide +kernel) rfl, ⟨by decide +kernel, by decide +kernel⟩, by decide +kernel⟩, inTG 499 (by decide +kernel) rfl, inTG 12 (by decide +kernel) rfl⟩
theorem mw_X1_begin : MWV yX1_begin cX1_begin 1 none 0 := ⟨⟨inTG 504 (by decide +kernel) rfl, inTG 127 (by decide +kernel) rfl, ⟨by decide +kernel, by decide +kernel⟩, by decide +kernel⟩, inTG 503 (by decide +kernel) rfl, inTG 13 (by decide +kernel) rfl⟩
theorem mw_X3_copyFrom : MWV yX3_copyFrom cX3_copyFrom 3 none 1 := ⟨⟨inTG 508 (by decide +kernel) rfl, inTG 124 (by decide +kernel) rfl, ⟨by decide +kernel, by decide +kernel⟩, by decide +kernel⟩, inTG 507 (by decide +kernel) rfl, inTG 14 (by decide +kernel) rfl⟩
theorem mw_X3_isUp : MWV yX3_isUp cX3_isUp 2 (some .boolean) 1 := ⟨⟨inTG 512 (by decide +kernel) rfl, inTG 124 (by decide +kernel) rfl, ⟨by decide +kernel, by decide +kernel⟩, by decide +kernel⟩, inTG 511 (by decide +kernel) rfl, inTG 15 (by decide +kernel) rfl⟩
theorem mw_X7_evening : MWV yX7_evening cX7_evening 7 (some .int) 2 := ⟨⟨inTG 516 (by decide +kernel) rfl, inTG 123 (by decide +kernel) rfl, ⟨by decide +kernel, by decide +kernel⟩, by decide +kernel⟩, inTG 515 (by decide +kernel) rfl, inTG 16 (by decide +kernel) rfl⟩
theorem mw_X7_night : MWV yX7_night cX7_night 3 none 1 := ⟨⟨inTG 522 (by decide +kernel) rfl, inTG 123 (by decide +kernel) rfl, ⟨by decide +kernel, by decide +kernel⟩, by decide +kernel⟩, inTG 521 (by decide +kernel) rfl, inTG 17 (by decide +kernel) rfl⟩
theorem mw_X9_news : MWV yX9_news cX9_news 3 (some .int) 2 := ⟨⟨inTG 527 (by decide +kernel) rfl, inTG 122 (by decide +kernel) rfl, ⟨by decide +kernel, by decide +kernel⟩, by decide +kernel⟩, inTG 525 (by decide +kernel) rfl, inTG 526 (by decide +kernel) rfl⟩
theorem mw_X9_set : MWV yX9_set cX9_set 4 (some .int) 2 := ⟨⟨inTG 532 (by decide +kernel) rfl, inTG 122 (by decide +kernel) rfl, ⟨by decide +kernel, by decide +kernel⟩, by decide +kernel⟩, inTG 530 (by decide +kernel) rfl, inTG 531 (by decide +kernel) rfl⟩
theorem mw_X9_balk : MWV yX9_balk cX9_balk 4 (some .int) 2 := ⟨⟨inTG 536 (by decide +kernel) rfl, inTG 122 (by decide +kernel) rfl, ⟨by decide +kernel, by decide +kernel⟩, by decide +kernel⟩, inTG 534 (by decide +kernel) rfl, inTG 535 (by decide +kernel) rfl⟩
theorem mw_X9_row : MWV yX9_row cX9_row 5 (some .int) 3 := ⟨⟨inTG 540 (by decide +kernel) rfl, inTG 122 (by decide +kernel) rfl, ⟨by decide +kernel, by decide +kernel⟩, by decide +kernel⟩, inTG 538 (by decide +kernel) rfl, inTG 539 (by decide +kernel) rfl⟩
theorem mw_X9_feed : MWV yX9_feed cX9_feed 2 (some .int) 1 := ⟨⟨inTG 544 (by decide +kernel) rfl, inTG 122 (by decide +kernel) rfl, ⟨by decide +kernel, by decide +kernel⟩, by decide +kernel⟩, inTG 542 (by decide +kernel) rfl, inTG 543 (by decide +kernel) rfl⟩
theorem mw_X5_take : MWV yX5_take cX5_take 2 (some .boolean) 1 := ⟨⟨inTG 548 (by decide +kernel) rfl, inTG 126 (by decide +kernel) rfl, ⟨by decide +kernel, by decide +kernel⟩, by decide +kernel⟩, inTG 547 (by decide +kernel) rfl, inTG 18 (by decide +kernel) rfl⟩
theorem mw_X9_bench : MWV yX9_bench cX9_bench 3 (some .int) 0 := ⟨⟨inTG 552 (by decide +kernel) rfl, inTG 122 (by decide +kernel) rfl, ⟨by decide +kernel, by decide +kernel⟩, by decide +kernel⟩, inTG 550 (by decide +kernel) rfl, inTG 551 (by decide +kernel) rfl⟩
theorem mw_X5_readInto : MWV yX5_readInto cX5_readInto 3 (some .boolean) 1 := ⟨⟨inTG 556 (by decide +kernel) rfl, inTG 126 (by decide +kernel) rfl, ⟨by decide +kernel, by decide +kernel⟩, by decide +kernel⟩, inTG 555 (by decide +kernel) rfl, inTG 19 (by decide +kernel) rfl⟩
theorem mw_X2_clear : MWV yX2_clear cX2_clear 1 none 0 := ⟨⟨inTG 560 (by decide +kernel) rfl, inTG 130 (by decide +kernel) rfl, ⟨by decide +kernel, by decide +kernel⟩, by decide +kernel⟩, inTG 559 (by decide +kernel) rfl, inTG 20 (by decide +kernel) rfl⟩
theorem mw_X5_step : MWV yX5_step cX5_step 1 none 0 := ⟨⟨inTG 564 (by decide +kernel) rfl, inTG 126 (by decide +kernel) rfl, ⟨by decide +kernel, by decide +kernel⟩, by decide +kernel⟩, inTG 563 (by decide +kernel) rfl, inTG 21 (by decide +kernel) rfl⟩
theorem mw_X5_clause : MWV yX5_clause cX5_clause 3 none 0 := ⟨⟨inTG 568 (by decide +kernel) rfl, inTG 126 (by decide +kernel) rfl, ⟨by decide +kernel, by decide +kernel⟩, by decide +kernel⟩, inTG 567 (by decide +kernel) rfl, inTG 22 (by decide +kernel) rfl⟩
theorem mw_X5_word : MWV yX5_word cX5_word 3 none 1 := ⟨⟨inTG 573 (by decide +kernel) rfl, inTG 126 (by decide +kernel) rfl, ⟨by decide +kernel, by decide +kernel⟩, by decide +kernel⟩, inTG 572 (by decide +kernel) rfl, inTG 23 (by decide +kernel) rfl⟩
theorem mw_X5_need : MWV yX5_need cX5_need 2 none 1 := ⟨⟨inTG 625 (by decide +kernel) rfl, inTG 126 (by decide +kernel) rfl, ⟨by decide +kernel, by decide +kernel⟩, by decide +kernel⟩, inTG 624 (by decide +kernel) rfl, inTG 24 (by decide +kernel) rfl⟩
theorem mw_X5_number : MWV yX5_number cX5_number 2 (some .int) 0 := ⟨⟨inTG 629 (by decide +kernel) rfl, inTG 126 (by decide +kernel) rfl, ⟨by decide +kernel, by decide +kernel⟩, by decide +kernel⟩, inTG 628 (by decide +kernel) rfl, inTG 25 (by decide +kernel) rfl⟩
theorem mw_X5_isDigit : MWV yX5_isDigit cX5_isDigit 1 (some .boolean) 0 := ⟨⟨inTG 633 (by decide +kernel) rfl, inTG 126 (by decide +kernel) rfl, ⟨by decide +kernel, by decide +kernel⟩, by decide +kernel⟩, inTG 632 (by decide +kernel) rfl, inTG 26 (by decide +kernel) rfl⟩
theorem mw_X5_either : MWV yX5_either cX5_either 3 none 1 := ⟨⟨inTG 640 (by decide +kernel) rfl, inTG 126 (by decide +kernel) rfl, ⟨by decide +kernel, by decide +kernel⟩, by decide +kernel⟩, inTG 639 (by decide +kernel) rfl, inTG 27 (by decide +kernel) rfl⟩
theorem mw_X5_both : MWV yX5_both cX5_both 3 none 1 := ⟨⟨inTG 644 (by decide +kernel) rfl, inTG 126 (by decide +kernel) rfl, ⟨by decide +kernel, by decide +kernel⟩, by decide +kernel⟩, inTG 643 (by decide +kernel) rfl, inTG 28 (by decide +kernel) rfl⟩
theorem mw_X5_factor : MWV yX5_factor cX5_factor 4 none 1 := ⟨⟨inTG 648 (by decide +kernel) rfl, inTG 126 (by decide +kernel) rfl, ⟨by decide +kernel, by decide +kernel⟩, by decide +kernel⟩, inTG 647 (by decide +kernel) rfl, inTG 29 (by decide +kernel) rfl⟩
theorem mw_X2_addStep : MWV yX2_addStep cX2_addStep 2 none 1 := ⟨⟨inTG 652 (by decide +kernel) rfl, inTG 130 (by decide +kernel) rfl, ⟨by decide +kernel, by decide +kernel⟩, by decide +kernel⟩, inTG 651 (by decide +kernel) rfl, inTG 30 (by decide +kernel) rfl⟩
theorem mw_X5_choice : MWV yX5_choice cX5_choice 3 (some .int) 1 := ⟨⟨inTG 657 (by decide +kernel) rfl, inTG 126 (by decide +kernel) rfl, ⟨by decide +kernel, by decide +kernel⟩, by decide +kernel⟩, inTG 656 (by decide +kernel) rfl, inTG 31 (by decide +kernel) rfl⟩
theorem mw_X2_testStep : MWS yX2_testStep cX2_testStep 3 (some .int) 3 := ⟨⟨inTG 718 (by decide +kernel) rfl, inTG 130 (by decide +kernel) rfl, ⟨by decide +kernel, by decide +kernel⟩, by decide +kernel⟩, inTG 717 (by decide +kernel) rfl⟩
theorem mw_X2_addClause : MWV yX2_addClause cX2_addClause 2 none 1 := ⟨⟨inTG 722 (by decide +kernel) rfl, inTG 130 (by decide +kernel) rfl, ⟨by decide +kernel, by decide +kernel⟩, by decide +kernel⟩, inTG 721 (by decide +kernel) rfl, inTG 32 (by decide +kernel) rfl⟩
theorem mw_X7_hold : MWV yX7_hold cX7_hold 3 none 1 := ⟨⟨inTG 726 (by decide +kernel) rfl, inTG 123 (by decide +kernel) rfl, ⟨by decide +kernel, by decide +kernel⟩, by decide +kernel⟩, inTG 725 (by decide +kernel) rfl, inTG 33 (by decide +kernel) rfl⟩
theorem mw_X9_told : MWV yX9_told cX9_told 2 (some .int) 1 := ⟨⟨inTG 730 (by decide +kernel) rfl, inTG 122 (by decide +kernel) rfl, ⟨by decide +kernel, by decide +kernel⟩, by decide +kernel⟩, inTG 728 (by decide +kernel) rfl, inTG 729 (by decide +kernel) rfl⟩
theorem mw_X7_howManyUp : MWV yX7_howManyUp cX7_howManyUp 4 (some .int) 1 := ⟨⟨inTG 735 (by decide +kernel) rfl, inTG 123 (by decide +kernel) rfl, ⟨by decide +kernel, by decide +kernel⟩, by decide +kernel⟩, inTG 734 (by decide +kernel) rfl, inTG 34 (by decide +kernel) rfl⟩
theorem mw_X7_leftOfAll : MWV yX7_leftOfAll cX7_leftOfAll 4 (some .int) 1 := ⟨⟨inTG 739 (by decide +kernel) rfl, inTG 123 (by decide +kernel) rfl, ⟨by decide +kernel, by decide +kernel⟩, by decide +kernel⟩, inTG 738 (by decide +kernel) rfl, inTG 35 (by decide +kernel) rfl⟩
theorem mw_X9_tell : MWV yX9_tell cX9_tell 2 (some .int) 1 := ⟨⟨inTG 744 (by decide +kernel) rfl, inTG 122 (by decide +kernel) rfl, ⟨by decide +kernel, by decide +kernel⟩, by decide +kernel⟩, inTG 742 (by decide +kernel) rfl, inTG 743 (by decide +kernel) rfl⟩
theorem mw_X9_pass : MWV yX9_pass cX9_pass 3 (some .int) 1 := ⟨⟨inTG 749 (by decide +kernel) rfl, inTG 122 (by decide +kernel) rfl, ⟨by decide +kernel, by decide +kernel⟩, by decide +kernel⟩, inTG 747 (by decide +kernel) rfl, inTG 748 (by decide +kernel) rfl⟩
theorem mw_X9_on : MWV yX9_on cX9_on 4 (some .int) 3 := ⟨⟨inTG 754 (by decide +kernel) rfl, inTG 122 (by decide +kernel) rfl, ⟨by decide +kernel, by decide +kernel⟩, by decide +kernel⟩, inTG 752 (by decide +kernel) rfl, inTG 753 (by decide +kernel) rfl⟩
theorem mw_X1_behind : MWV yX1_behind cX1_behind 4 (some .int) 3 := ⟨⟨inTG 758 (by decide +kernel) rfl, inTG 127 (by decide +kernel) rfl, ⟨by decide +kernel, by decide +kernel⟩, by decide +kernel⟩, inTG 757 (by decide +kernel) rfl, inTG 36 (by decide +kernel) rfl⟩
theorem mw_X1_tellOften : MWV yX1_tellOften cX1_tellOften 4 none 2 := ⟨⟨inTG 762 (by decide +kernel) rfl, inTG 127 (by decide +kernel) rfl, ⟨by decide +kernel, by decide +kernel⟩, by decide +kernel⟩, inTG 761 (by decide +kernel) rfl, inTG 37 (by decide +kernel) rfl⟩
theorem mw_X9_soonest : MWV yX9_soonest cX9_soonest 2 (some .int) 1 := ⟨⟨inTG 767 (by decide +kernel) rfl, inTG 122 (by decide +kernel) rfl, ⟨by decide +kernel, by decide +kernel⟩, by decide +kernel⟩, inTG 765 (by decide +kernel) rfl, inTG 766 (by decide +kernel) rfl⟩
theorem mw_X4_findOrder : MWV yX4_findOrder cX4_findOrder 1 none 0 := ⟨⟨inTG 771 (by decide +kernel) rfl, inTG 128 (by decide +kernel) rfl, ⟨by decide +kernel, by decide +kernel⟩, by decide +kernel⟩, inTG 770 (by decide +kernel) rfl, inTG 38 (by decide +kernel) rfl⟩
theorem mw_X4_tryOrders : MWV yX4_tryOrders cX4_tryOrders 6 none 3 := ⟨⟨inTG 776 (by decide +kernel) rfl, inTG 128 (by decide +kernel) rfl, ⟨by decide +kernel, by decide +kernel⟩, by decide +kernel⟩, inTG 775 (by decide +kernel) rfl, inTG 39 (by decide +kernel) rfl⟩
theorem mw_X4_keep : MWV yX4_keep cX4_keep 2 none 1 := ⟨⟨inTG 780 (by decide +kernel) rfl, inTG 128 (by decide +kernel) rfl, ⟨by decide +kernel, by decide +kernel⟩, by decide +kernel⟩, inTG 779 (by decide +kernel) rfl, inTG 40 (by decide +kernel) rfl⟩
theorem mw_X4_turn : MWV yX4_turn cX4_turn 4 (some .int) 2 := ⟨⟨inTG 787 (by decide +kernel) rfl, inTG 128 (by decide +kernel) rfl, ⟨by decide +kernel, by decide +kernel⟩, by decide +kernel⟩, inTG 786 (by decide +kernel) rfl, inTG 41 (by decide +kernel) rfl⟩
theorem mw_X9_most : MWV yX9_most cX9_most 3 (some .int) 2 := ⟨⟨inTG 793 (by decide +kernel) rfl, inTG 122 (by decide +kernel) rfl, ⟨by decide +kernel, by decide +kernel⟩, by decide +kernel⟩, inTG 791 (by decide +kernel) rfl, inTG 792 (by decide +kernel) rfl⟩
theorem mw_X4_findRow : MWV yX4_findRow cX4_findRow 2 none 1 := ⟨⟨inTG 797 (by decide +kernel) rfl, inTG 128 (by decide +kernel) rfl, ⟨by decide +kernel, by decide +kernel⟩, by decide +kernel⟩, inTG 796 (by decide +kernel) rfl, inTG 42 (by decide +kernel) rfl⟩
theorem mw_X4_tryRows : MWV yX4_tryRows cX4_tryRows 4 none 2 := ⟨⟨inTG 801 (by decide +kernel) rfl, inTG 128 (by decide +kernel) rfl, ⟨by decide +kernel, by decide +kernel⟩, by decide +kernel⟩, inTG 800 (by decide +kernel) rfl, inTG 43 (by decide +kernel) rfl⟩
theorem mw_X9_next : MWV yX9_next cX9_next 1 (some .int) 0 := ⟨⟨inTG 806 (by decide +kernel) rfl, inTG 122 (by decide +kernel) rfl, ⟨by decide +kernel, by decide +kernel⟩, by decide +kernel⟩, inTG 804 (by decide +kernel) rfl, inTG 805 (by decide +kernel) rfl⟩
theorem mw_X1_bestNext : MWV yX1_bestNext cX1_bestNext 5 (some .int) 0 := ⟨⟨inTG 810 (by decide +kernel) rfl, inTG 127 (by decide +kernel) rfl, ⟨by decide +kernel, by decide +kernel⟩, by decide +kernel⟩, inTG 809 (by decide +kernel) rfl, inTG 44 (by decide +kernel) rfl⟩
theorem mw_X9_see : MWV yX9_see cX9_see 4 (some .int) 3 := ⟨⟨inTG 816 (by decide +kernel) rfl, inTG 122 (by decide +kernel) rfl, ⟨by decide +kernel, by decide +kernel⟩, by decide +kernel⟩, inTG 814 (by decide +kernel) rfl, inTG 815 (by decide +kernel) rfl⟩
theorem mw_X6_empty : MWV yX6_empty cX6_empty 1 (some .int) 0 := ⟨⟨inTG 820 (by decide +kernel) rfl, inTG 125 (by decide +kernel) rfl, ⟨by decide +kernel, by decide +kernel⟩, by decide +kernel⟩, inTG 819 (by decide +kernel) rfl, inTG 45 (by decide +kernel) rfl⟩
theorem mw_X6_put : MWV yX6_put cX6_put 4 (some .int) 3 := ⟨⟨inTG 824 (by decide +kernel) rfl, inTG 125 (by decide +kernel) rfl, ⟨by decide +kernel, by decide +kernel⟩, by decide +kernel⟩, inTG 823 (by decide +kernel) rfl, inTG 46 (by decide +kernel) rfl⟩
theorem mw_X9_since : MWV yX9_since cX9_since 3 (some .int) 2 := ⟨⟨inTG 828 (by decide +kernel) rfl, inTG 122 (by decide +kernel) rfl, ⟨by decide +kernel, by decide +kernel⟩, by decide +kernel⟩, inTG 826 (by decide +kernel) rfl, inTG 827 (by decide +kernel) rfl⟩
theorem mw_X1_weighDays : MWV yX1_weighDays cX1_weighDays 4 none 1 := ⟨⟨inTG 832 (by decide +kernel) rfl, inTG 127 (by decide +kernel) rfl, ⟨by decide +kernel, by decide +kernel⟩, by decide +kernel⟩, inTG 831 (by decide +kernel) rfl, inTG 47 (by decide +kernel) rfl⟩
theorem mw_X1_weighNothing : MWV yX1_weighNothing cX1_weighNothing 1 none 0 := ⟨⟨inTG 836 (by decide +kernel) rfl, inTG 127 (by decide +kernel) rfl, ⟨by decide +kernel, by decide +kernel⟩, by decide +kernel⟩, inTG 835 (by decide +kernel) rfl, inTG 48 (by decide +kernel) rfl⟩
theorem mw_X1_weigh : MWV yX1_weigh cX1_weigh 5 none 3 := ⟨⟨inTG 840 (by decide +kernel) rfl, inTG 127 (by decide +kernel) rfl, ⟨by decide +kernel, by decide +kernel⟩, by decide +kernel⟩, inTG 839 (by decide +kernel) rfl, inTG 49 (by decide +kernel) rfl⟩
theorem mw_X6_cell : MWV yX6_cell cX6_cell 3 (some .int) 2 := ⟨⟨inTG 844 (by decide +kernel) rfl, inTG 125 (by decide +kernel) rfl, ⟨by decide +kernel, by decide +kernel⟩, by decide +kernel⟩, inTG 843 (by decide +kernel) rfl, inTG 50 (by decide +kernel) rfl⟩
theorem mw_X1_isSo : MWV yX1_isSo cX1_isSo 4 (some .boolean) 3 := ⟨⟨inTG 848 (by decide +kernel) rfl, inTG 127 (by decide +kernel) rfl, ⟨by decide +kernel, by decide +kernel⟩, by decide +kernel⟩, inTG 847 (by decide +kernel) rfl, inTG 51 (by decide +kernel) rfl⟩
theorem mw_X9_can : MWV yX9_can cX9_can 3 (some .int) 2 := ⟨⟨inTG 852 (by decide +kernel) rfl, inTG 122 (by decide +kernel) rfl, ⟨by decide +kernel, by decide +kernel⟩, by decide +kernel⟩, inTG 850 (by decide +kernel) rfl, inTG 851 (by decide +kernel) rfl⟩
theorem mw_X1_weighValues : MWV yX1_weighValues cX1_weighValues 4 none 1 := ⟨⟨inTG 856 (by decide +kernel) rfl, inTG 127 (by decide +kernel) rfl, ⟨by decide +kernel, by decide +kernel⟩, by decide +kernel⟩, inTG 855 (by decide +kernel) rfl, inTG 52 (by decide +kernel) rfl⟩
theorem mw_X9_odds : MWV yX9_odds cX9_odds 3 (some .long) 2 := ⟨⟨inTG 861 (by decide +kernel) rfl, inTG 122 (by decide +kernel) rfl, ⟨by decide +kernel, by decide +kernel⟩, by decide +kernel⟩, inTG 859 (by decide +kernel) rfl, inTG 860 (by decide +kernel) rfl⟩
theorem mw_X1_howManyUpBehind : MWV yX1_howManyUpBehind cX1_howManyUpBehind 4 (some .int) 1 := ⟨⟨inTG 866 (by decide +kernel) rfl, inTG 127 (by decide +kernel) rfl, ⟨by decide +kernel, by decide +kernel⟩, by decide +kernel⟩, inTG 865 (by decide +kernel) rfl, inTG 53 (by decide +kernel) rfl⟩
theorem mw_X9_lowest : MWS yX9_lowest cX9_lowest 4 (some .long) 3 := ⟨⟨inTG 869 (by decide +kernel) rfl, inTG 122 (by decide +kernel) rfl, ⟨by decide +kernel, by decide +kernel⟩, by decide +kernel⟩, inTG 868 (by decide +kernel) rfl⟩
theorem mw_X9_commonDivisor : MWS yX9_commonDivisor cX9_commonDivisor 6 (some .int) 2 := ⟨⟨inTG 872 (by decide +kernel) rfl, inTG 122 (by decide +kernel) rfl, ⟨by decide +kernel, by decide +kernel⟩, by decide +kernel⟩, inTG 871 (by decide +kernel) rfl⟩
theorem mw_X9_mean : MWV yX9_mean cX9_mean 2 (some .long) 1 := ⟨⟨inTG 876 (by decide +kernel) rfl, inTG 122 (by decide +kernel) rfl, ⟨by decide +kernel, by decide +kernel⟩, by decide +kernel⟩, inTG 874 (by decide +kernel) rfl, inTG 875 (by decide +kernel) rfl⟩
theorem mw_X9_month : MWV yX9_month cX9_month 2 (some .int) 1 := ⟨⟨inTG 880 (by decide +kernel) rfl, inTG 122 (by decide +kernel) rfl, ⟨by decide +kernel, by decide +kernel⟩, by decide +kernel⟩, inTG 878 (by decide +kernel) rfl, inTG 879 (by decide +kernel) rfl⟩
theorem mw_X9_ends : MWV yX9_ends cX9_ends 2 (some .int) 1 := ⟨⟨inTG 884 (by decide +kernel) rfl, inTG 122 (by decide +kernel) rfl, ⟨by decide +kernel, by decide +kernel⟩, by decide +kernel⟩, inTG 882 (by decide +kernel) rfl, inTG 883 (by decide +kernel) rfl⟩
theorem mw_X1_monthEnds : MWV yX1_monthEnds cX1_monthEnds 4 (some .int) 1 := ⟨⟨inTG 888 (by decide +kernel) rfl, inTG 127 (by decide +kernel) rfl, ⟨by decide +kernel, by decide +kernel⟩, by decide +kernel⟩, inTG 887 (by decide +kernel) rfl, inTG 54 (by decide +kernel) rfl⟩
theorem mw_X9_book : MWV yX9_book cX9_book 3 (some .int) 2 := ⟨⟨inTG 894 (by decide +kernel) rfl, inTG 122 (by decide +kernel) rfl, ⟨by decide +kernel, by decide +kernel⟩, by decide +kernel⟩, inTG 892 (by decide +kernel) rfl, inTG 893 (by decide +kernel) rfl⟩
theorem mw_X9_looked : MWV yX9_looked cX9_looked 2 (some .int) 0 := ⟨⟨inTG 898 (by decide +kernel) rfl, inTG 122 (by decide +kernel) rfl, ⟨by decide +kernel, by decide +kernel⟩, by decide +kernel⟩, inTG 896 (by decide +kernel) rfl, inTG 897 (by decide +kernel) rfl⟩
theorem mw_X9_judge : MWV yX9_judge cX9_judge 6 (some .int) 2 := ⟨⟨inTG 903 (by decide +kernel) rfl, inTG 122 (by decide +kernel) rfl, ⟨by decide +kernel, by decide +kernel⟩, by decide +kernel⟩, inTG 901 (by decide +kernel) rfl, inTG 902 (by decide +kernel) rfl⟩
theorem mw_X9_isTape : MWS yX9_isTape cX9_isTape 1 (some .boolean) 1 := ⟨⟨inTG 906 (by decide +kernel) rfl, inTG 122 (by decide +kernel) rfl, ⟨by decide +kernel, by decide +kernel⟩, by decide +kernel⟩, inTG 905 (by decide +kernel) rfl⟩
theorem mw_X8_has : MWV yX8_has cX8_has 2 (some .boolean) 1 := ⟨⟨inTG 910 (by decide +kernel) rfl, inTG 131 (by decide +kernel) rfl, ⟨by decide +kernel, by decide +kernel⟩, by decide +kernel⟩, inTG 909 (by decide +kernel) rfl, inTG 55 (by decide +kernel) rfl⟩
theorem mw_X9_image : MWV yX9_image cX9_image 1 (some .int) 0 := ⟨⟨inTG 914 (by decide +kernel) rfl, inTG 122 (by decide +kernel) rfl, ⟨by decide +kernel, by decide +kernel⟩, by decide +kernel⟩, inTG 912 (by decide +kernel) rfl, inTG 913 (by decide +kernel) rfl⟩
theorem mw_X7_copyFrom : MWV yX7_copyFrom cX7_copyFrom 2 none 1 := ⟨⟨inTG 918 (by decide +kernel) rfl, inTG 123 (by decide +kernel) rfl, ⟨by decide +kernel, by decide +kernel⟩, by decide +kernel⟩, inTG 917 (by decide +kernel) rfl, inTG 56 (by decide +kernel) rfl⟩
theorem mw_X6_copyFrom : MWV yX6_copyFrom cX6_copyFrom 2 none 1 := ⟨⟨inTG 924 (by decide +kernel) rfl, inTG 125 (by decide +kernel) rfl, ⟨by decide +kernel, by decide +kernel⟩, by decide +kernel⟩, inTG 923 (by decide +kernel) rfl, inTG 57 (by decide +kernel) rfl⟩
theorem mw_X9_undo : MWV yX9_undo cX9_undo 1 (some .int) 0 := ⟨⟨inTG 929 (by decide +kernel) rfl, inTG 122 (by decide +kernel) rfl, ⟨by decide +kernel, by decide +kernel⟩, by decide +kernel⟩, inTG 927 (by decide +kernel) rfl, inTG 928 (by decide +kernel) rfl⟩
theorem mw_X9_act : MWV yX9_act cX9_act 4 (some .int) 3 := ⟨⟨inTG 933 (by decide +kernel) rfl, inTG 122 (by decide +kernel) rfl, ⟨by decide +kernel, by decide +kernel⟩, by decide +kernel⟩, inTG 931 (by decide +kernel) rfl, inTG 932 (by decide +kernel) rfl⟩
theorem mw_X0_start : MWV yX0_start cX0_start 6 (some .int) 5 := ⟨⟨inTG 937 (by decide +kernel) rfl, inTG 129 (by decide +kernel) rfl, ⟨by decide +kernel, by decide +kernel⟩, by decide +kernel⟩, inTG 936 (by decide +kernel) rfl, inTG 58 (by decide +kernel) rfl⟩
theorem mw_X0_run : MWV yX0_run cX0_run 8 (some .int) 4 := ⟨⟨inTG 941 (by decide +kernel) rfl, inTG 129 (by decide +kernel) rfl, ⟨by decide +kernel, by decide +kernel⟩, by decide +kernel⟩, inTG 940 (by decide +kernel) rfl, inTG 59 (by decide +kernel) rfl⟩
theorem mw_X0_bodyFrom : MWS yX0_bodyFrom cX0_bodyFrom 5 (some .int) 2 := ⟨⟨inTG 944 (by decide +kernel) rfl, inTG 129 (by decide +kernel) rfl, ⟨by decide +kernel, by decide +kernel⟩, by decide +kernel⟩, inTG 943 (by decide +kernel) rfl⟩
theorem mw_X0_note : MWV yX0_note cX0_note 2 none 1 := ⟨⟨inTG 952 (by decide +kernel) rfl, inTG 129 (by decide +kernel) rfl, ⟨by decide +kernel, by decide +kernel⟩, by decide +kernel⟩, inTG 951 (by decide +kernel) rfl, inTG 60 (by decide +kernel) rfl⟩
theorem mw_X9_trace : MWV yX9_trace cX9_trace 2 (some .int) 1 := ⟨⟨inTG 956 (by decide +kernel) rfl, inTG 122 (by decide +kernel) rfl, ⟨by decide +kernel, by decide +kernel⟩, by decide +kernel⟩, inTG 954 (by decide +kernel) rfl, inTG 955 (by decide +kernel) rfl⟩
theorem mw_X9_taken : MWV yX9_taken cX9_taken 4 (some .int) 2 := ⟨⟨inTG 961 (by decide +kernel) rfl, inTG 122 (by decide +kernel) rfl, ⟨by decide +kernel, by decide +kernel⟩, by decide +kernel⟩, inTG 959 (by decide +kernel) rfl, inTG 960 (by decide +kernel) rfl⟩
theorem mw_X9_isUnder : MWS yX9_isUnder cX9_isUnder 4 (some .boolean) 2 := ⟨⟨inTG 964 (by decide +kernel) rfl, inTG 122 (by decide +kernel) rfl, ⟨by decide +kernel, by decide +kernel⟩, by decide +kernel⟩, inTG 963 (by decide +kernel) rfl⟩
theorem mw_X9_count : MWV yX9_count cX9_count 2 (some .int) 1 := ⟨⟨inTG 969 (by decide +kernel) rfl, inTG 122 (by decide +kernel) rfl, ⟨by decide +kernel, by decide +kernel⟩, by decide +kernel⟩, inTG 967 (by decide +kernel) rfl, inTG 968 (by decide +kernel) rfl⟩
theorem mw_X9_tape : MWV yX9_tape cX9_tape 4 (some .int) 3 := ⟨⟨inTG 973 (by decide +kernel) rfl, inTG 122 (by decide +kernel) rfl, ⟨by decide +kernel, by decide +kernel⟩, by decide +kernel⟩, inTG 971 (by decide +kernel) rfl, inTG 972 (by decide +kernel) rfl⟩
theorem mw_X8_become : MWV yX8_become cX8_become 3 none 2 := ⟨⟨inTG 977 (by decide +kernel) rfl, inTG 131 (by decide +kernel) rfl, ⟨by decide +kernel, by decide +kernel⟩, by decide +kernel⟩, inTG 976 (by decide +kernel) rfl, inTG 61 (by decide +kernel) rfl⟩
theorem mw_X9_item : MWV yX9_item cX9_item 5 (some .int) 3 := ⟨⟨inTG 984 (by decide +kernel) rfl, inTG 122 (by decide +kernel) rfl, ⟨by decide +kernel, by decide +kernel⟩, by decide +kernel⟩, inTG 982 (by decide +kernel) rfl, inTG 983 (by decide +kernel) rfl⟩
theorem mw_X8_cut : MWV yX8_cut cX8_cut 3 (some .long) 1 := ⟨⟨inTG 988 (by decide +kernel) rfl, inTG 131 (by decide +kernel) rfl, ⟨by decide +kernel, by decide +kernel⟩, by decide +kernel⟩, inTG 987 (by decide +kernel) rfl, inTG 62 (by decide +kernel) rfl⟩
theorem mw_X9_read : MWV yX9_read cX9_read 3 (some .long) 2 := ⟨⟨inTG 992 (by decide +kernel) rfl, inTG 122 (by decide +kernel) rfl, ⟨by decide +kernel, by decide +kernel⟩, by decide +kernel⟩, inTG 990 (by decide +kernel) rfl, inTG 991 (by decide +kernel) rfl⟩
theorem mw_X9_shift : MWV yX9_shift cX9_shift 8 (some .int) 5 := ⟨⟨inTG 996 (by decide +kernel) rfl, inTG 122 (by decide +kernel) rfl, ⟨by decide +kernel, by decide +kernel⟩, by decide +kernel⟩, inTG 994 (by decide +kernel) rfl, inTG 995 (by decide +kernel) rfl⟩
theorem mw_X8_hasRun : MWV yX8_hasRun cX8_hasRun 3 (some .boolean) 2 := ⟨⟨inTG 1000 (by decide +kernel) rfl, inTG 131 (by decide +kernel) rfl, ⟨by decide +kernel, by decide +kernel⟩, by decide +kernel⟩, inTG 999 (by decide +kernel) rfl, inTG 63 (by decide +kernel) rfl⟩
theorem mw_X10_init : MWI yX10_init cX10_init 1 none 0 := ⟨⟨inTG 1006 (by decide +kernel) rfl, inTG 132 (by decide +kernel) rfl, ⟨by decide +kernel, by decide +kernel⟩, by decide +kernel⟩, rfl, inTG 1005 (by decide +kernel) rfl⟩
theorem mw_X10_clock : MWV yX10_clock cX10_clock 5 (some .int) 3 := ⟨⟨inTG 1210 (by decide +kernel) rfl, inTG 132 (by decide +kernel) rfl, ⟨by decide +kernel, by decide +kernel⟩, by decide +kernel⟩, inTG 1208 (by decide +kernel) rfl, inTG 1209 (by decide +kernel) rfl⟩
theorem mw_X10_in : MWV yX10_in cX10_in 4 (some .boolean) 3 := ⟨⟨inTG 1214 (by decide +kernel) rfl, inTG 132 (by decide +kernel) rfl, ⟨by decide +kernel, by decide +kernel⟩, by decide +kernel⟩, inTG 1213 (by decide +kernel) rfl, inTG 64 (by decide +kernel) rfl⟩
theorem mw_X10_balks : MWV yX10_balks cX10_balks 3 none 2 := ⟨⟨inTG 1218 (by decide +kernel) rfl, inTG 132 (by decide +kernel) rfl, ⟨by decide +kernel, by decide +kernel⟩, by decide +kernel⟩, inTG 1217 (by decide +kernel) rfl, inTG 65 (by decide +kernel) rfl⟩
theorem mw_X10_set : MWV yX10_set cX10_set 4 (some .int) 2 := ⟨⟨inTG 1222 (by decide +kernel) rfl, inTG 132 (by decide +kernel) rfl, ⟨by decide +kernel, by decide +kernel⟩, by decide +kernel⟩, inTG 1220 (by decide +kernel) rfl, inTG 1221 (by decide +kernel) rfl⟩
theorem mw_X10_isClock : MWV yX10_isClock cX10_isClock 2 (some .boolean) 1 := ⟨⟨inTG 1226 (by decide +kernel) rfl, inTG 132 (by decide +kernel) rfl, ⟨by decide +kernel, by decide +kernel⟩, by decide +kernel⟩, inTG 1225 (by decide +kernel) rfl, inTG 66 (by decide +kernel) rfl⟩
theorem mw_X10_balk : MWV yX10_balk cX10_balk 4 (some .int) 2 := ⟨⟨inTG 1230 (by decide +kernel) rfl, inTG 132 (by decide +kernel) rfl, ⟨by decide +kernel, by decide +kernel⟩, by decide +kernel⟩, inTG 1228 (by decide +kernel) rfl, inTG 1229 (by decide +kernel) rfl⟩
theorem mw_X10_has : MWV yX10_has cX10_has 3 (some .boolean) 2 := ⟨⟨inTG 1234 (by decide +kernel) rfl, inTG 132 (by decide +kernel) rfl, ⟨by decide +kernel, by decide +kernel⟩, by decide +kernel⟩, inTG 1233 (by decide +kernel) rfl, inTG 67 (by decide +kernel) rfl⟩
theorem mw_X10_row : MWV yX10_row cX10_row 5 (some .int) 3 := ⟨⟨inTG 1238 (by decide +kernel) rfl, inTG 132 (by decide +kernel) rfl, ⟨by decide +kernel, by decide +kernel⟩, by decide +kernel⟩, inTG 1236 (by decide +kernel) rfl, inTG 1237 (by decide +kernel) rfl⟩
theorem mw_X10_feed : MWV yX10_feed cX10_feed 2 (some .int) 1 := ⟨⟨inTG 1242 (by decide +kernel) rfl, inTG 132 (by decide +kernel) rfl, ⟨by decide +kernel, by decide +kernel⟩, by decide +kernel⟩, inTG 1240 (by decide +kernel) rfl, inTG 1241 (by decide +kernel) rfl⟩
theorem mw_X10_bench : MWV yX10_bench cX10_bench 2 (some .int) 0 := ⟨⟨inTG 1246 (by decide +kernel) rfl, inTG 132 (by decide +kernel) rfl, ⟨by decide +kernel, by decide +kernel⟩, by decide +kernel⟩, inTG 1244 (by decide +kernel) rfl, inTG 1245 (by decide +kernel) rfl⟩
theorem mw_X10_goesText : MWV yX10_goesText cX10_goesText 3 (some .boolean) 1 := ⟨⟨inTG 1250 (by decide +kernel) rfl, inTG 132 (by decide +kernel) rfl, ⟨by decide +kernel, by decide +kernel⟩, by decide +kernel⟩, inTG 1249 (by decide +kernel) rfl, inTG 68 (by decide +kernel) rfl⟩
theorem mw_X10_takesClause : MWV yX10_takesClause cX10_takesClause 2 (some .boolean) 1 := ⟨⟨inTG 1254 (by decide +kernel) rfl, inTG 132 (by decide +kernel) rfl, ⟨by decide +kernel, by decide +kernel⟩, by decide +kernel⟩, inTG 1253 (by decide +kernel) rfl, inTG 69 (by decide +kernel) rfl⟩
theorem mw_X10_takesHead : MWV yX10_takesHead cX10_takesHead 2 (some .boolean) 1 := ⟨⟨inTG 1258 (by decide +kernel) rfl, inTG 132 (by decide +kernel) rfl, ⟨by decide +kernel, by decide +kernel⟩, by decide +kernel⟩, inTG 1257 (by decide +kernel) rfl, inTG 70 (by decide +kernel) rfl⟩
theorem mw_X10_peek : MWV yX10_peek cX10_peek 1 (some .int) 0 := ⟨⟨inTG 1262 (by decide +kernel) rfl, inTG 132 (by decide +kernel) rfl, ⟨by decide +kernel, by decide +kernel⟩, by decide +kernel⟩, inTG 1261 (by decide +kernel) rfl, inTG 71 (by decide +kernel) rfl⟩
theorem mw_X10_takesWord : MWV yX10_takesWord cX10_takesWord 4 (some .boolean) 2 := ⟨⟨inTG 1266 (by decide +kernel) rfl, inTG 132 (by decide +kernel) rfl, ⟨by decide +kernel, by decide +kernel⟩, by decide +kernel⟩, inTG 1265 (by decide +kernel) rfl, inTG 72 (by decide +kernel) rfl⟩
theorem mw_X10_takes : MWV yX10_takes cX10_takes 2 (some .boolean) 1 := ⟨⟨inTG 1270 (by decide +kernel) rfl, inTG 132 (by decide +kernel) rfl, ⟨by decide +kernel, by decide +kernel⟩, by decide +kernel⟩, inTG 1269 (by decide +kernel) rfl, inTG 73 (by decide +kernel) rfl⟩
theorem mw_X10_takesNumber : MWV yX10_takesNumber cX10_takesNumber 2 (some .boolean) 0 := ⟨⟨inTG 1274 (by decide +kernel) rfl, inTG 132 (by decide +kernel) rfl, ⟨by decide +kernel, by decide +kernel⟩, by decide +kernel⟩, inTG 1273 (by decide +kernel) rfl, inTG 74 (by decide +kernel) rfl⟩
theorem mw_X10_isDigit : MWV yX10_isDigit cX10_isDigit 1 (some .boolean) 0 := ⟨⟨inTG 1278 (by decide +kernel) rfl, inTG 132 (by decide +kernel) rfl, ⟨by decide +kernel, by decide +kernel⟩, by decide +kernel⟩, inTG 1277 (by decide +kernel) rfl, inTG 75 (by decide +kernel) rfl⟩
theorem mw_X10_takesE : MWV yX10_takesE cX10_takesE 4 (some .boolean) 1 := ⟨⟨inTG 1282 (by decide +kernel) rfl, inTG 132 (by decide +kernel) rfl, ⟨by decide +kernel, by decide +kernel⟩, by decide +kernel⟩, inTG 1281 (by decide +kernel) rfl, inTG 76 (by decide +kernel) rfl⟩
theorem mw_X10_takesTest : MWV yX10_takesTest cX10_takesTest 3 (some .boolean) 0 := ⟨⟨inTG 1286 (by decide +kernel) rfl, inTG 132 (by decide +kernel) rfl, ⟨by decide +kernel, by decide +kernel⟩, by decide +kernel⟩, inTG 1285 (by decide +kernel) rfl, inTG 77 (by decide +kernel) rfl⟩
theorem mw_X10_place : MWV yX10_place cX10_place 2 (some .int) 1 := ⟨⟨inTG 1290 (by decide +kernel) rfl, inTG 132 (by decide +kernel) rfl, ⟨by decide +kernel, by decide +kernel⟩, by decide +kernel⟩, inTG 1289 (by decide +kernel) rfl, inTG 78 (by decide +kernel) rfl⟩
theorem mw_X10_emits : MWV yX10_emits cX10_emits 2 none 1 := ⟨⟨inTG 1294 (by decide +kernel) rfl, inTG 132 (by decide +kernel) rfl, ⟨by decide +kernel, by decide +kernel⟩, by decide +kernel⟩, inTG 1293 (by decide +kernel) rfl, inTG 79 (by decide +kernel) rfl⟩
theorem mw_X10_whole : MWV yX10_whole cX10_whole 1 none 0 := ⟨⟨inTG 1298 (by decide +kernel) rfl, inTG 132 (by decide +kernel) rfl, ⟨by decide +kernel, by decide +kernel⟩, by decide +kernel⟩, inTG 1297 (by decide +kernel) rfl, inTG 80 (by decide +kernel) rfl⟩
theorem mw_X10_settle : MWV yX10_settle cX10_settle 2 none 1 := ⟨⟨inTG 1302 (by decide +kernel) rfl, inTG 132 (by decide +kernel) rfl, ⟨by decide +kernel, by decide +kernel⟩, by decide +kernel⟩, inTG 1301 (by decide +kernel) rfl, inTG 81 (by decide +kernel) rfl⟩
theorem mw_X10_news : MWV yX10_news cX10_news 3 (some .int) 2 := ⟨⟨inTG 1306 (by decide +kernel) rfl, inTG 132 (by decide +kernel) rfl, ⟨by decide +kernel, by decide +kernel⟩, by decide +kernel⟩, inTG 1304 (by decide +kernel) rfl, inTG 1305 (by decide +kernel) rfl⟩
theorem mw_X10_isDay : MWV yX10_isDay cX10_isDay 2 (some .boolean) 1 := ⟨⟨inTG 1310 (by decide +kernel) rfl, inTG 132 (by decide +kernel) rfl, ⟨by decide +kernel, by decide +kernel⟩, by decide +kernel⟩, inTG 1309 (by decide +kernel) rfl, inTG 82 (by decide +kernel) rfl⟩
theorem mw_X10_newsOf : MWV yX10_newsOf cX10_newsOf 4 (some .int) 2 := ⟨⟨inTG 1314 (by decide +kernel) rfl, inTG 132 (by decide +kernel) rfl, ⟨by decide +kernel, by decide +kernel⟩, by decide +kernel⟩, inTG 1313 (by decide +kernel) rfl, inTG 83 (by decide +kernel) rfl⟩
theorem mw_X10_newsNow : MWV yX10_newsNow cX10_newsNow 5 (some .int) 2 := ⟨⟨inTG 1318 (by decide +kernel) rfl, inTG 132 (by decide +kernel) rfl, ⟨by decide +kernel, by decide +kernel⟩, by decide +kernel⟩, inTG 1317 (by decide +kernel) rfl, inTG 84 (by decide +kernel) rfl⟩
theorem mw_X10_begin : MWV yX10_begin cX10_begin 1 (some .int) 0 := ⟨⟨inTG 1322 (by decide +kernel) rfl, inTG 132 (by decide +kernel) rfl, ⟨by decide +kernel, by decide +kernel⟩, by decide +kernel⟩, inTG 1321 (by decide +kernel) rfl, inTG 85 (by decide +kernel) rfl⟩
theorem mw_X10_behind : MWV yX10_behind cX10_behind 1 (some .int) 0 := ⟨⟨inTG 1326 (by decide +kernel) rfl, inTG 132 (by decide +kernel) rfl, ⟨by decide +kernel, by decide +kernel⟩, by decide +kernel⟩, inTG 1325 (by decide +kernel) rfl, inTG 86 (by decide +kernel) rfl⟩
theorem mw_X10_holds : MWV yX10_holds cX10_holds 9 (some .boolean) 3 := ⟨⟨inTG 1330 (by decide +kernel) rfl, inTG 132 (by decide +kernel) rfl, ⟨by decide +kernel, by decide +kernel⟩, by decide +kernel⟩, inTG 1329 (by decide +kernel) rfl, inTG 87 (by decide +kernel) rfl⟩
theorem mw_X10_factOf : MWV yX10_factOf cX10_factOf 4 (some .int) 3 := ⟨⟨inTG 1334 (by decide +kernel) rfl, inTG 132 (by decide +kernel) rfl, ⟨by decide +kernel, by decide +kernel⟩, by decide +kernel⟩, inTG 1333 (by decide +kernel) rfl, inTG 88 (by decide +kernel) rfl⟩
theorem mw_X10_tell : MWV yX10_tell cX10_tell 2 (some .int) 1 := ⟨⟨inTG 1338 (by decide +kernel) rfl, inTG 132 (by decide +kernel) rfl, ⟨by decide +kernel, by decide +kernel⟩, by decide +kernel⟩, inTG 1336 (by decide +kernel) rfl, inTG 1337 (by decide +kernel) rfl⟩
theorem mw_X10_goEvening : MWV yX10_goEvening cX10_goEvening 6 (some .int) 1 := ⟨⟨inTG 1342 (by decide +kernel) rfl, inTG 132 (by decide +kernel) rfl, ⟨by decide +kernel, by decide +kernel⟩, by decide +kernel⟩, inTG 1341 (by decide +kernel) rfl, inTG 89 (by decide +kernel) rfl⟩
theorem mw_X10_holdsOf : MWV yX10_holdsOf cX10_holdsOf 4 (some .int) 1 := ⟨⟨inTG 1346 (by decide +kernel) rfl, inTG 132 (by decide +kernel) rfl, ⟨by decide +kernel, by decide +kernel⟩, by decide +kernel⟩, inTG 1345 (by decide +kernel) rfl, inTG 90 (by decide +kernel) rfl⟩
theorem mw_X10_pace : MWV yX10_pace cX10_pace 3 (some .int) 0 := ⟨⟨inTG 1350 (by decide +kernel) rfl, inTG 132 (by decide +kernel) rfl, ⟨by decide +kernel, by decide +kernel⟩, by decide +kernel⟩, inTG 1349 (by decide +kernel) rfl, inTG 91 (by decide +kernel) rfl⟩
theorem mw_X10_minds : MWV yX10_minds cX10_minds 3 (some .boolean) 2 := ⟨⟨inTG 1354 (by decide +kernel) rfl, inTG 132 (by decide +kernel) rfl, ⟨by decide +kernel, by decide +kernel⟩, by decide +kernel⟩, inTG 1353 (by decide +kernel) rfl, inTG 92 (by decide +kernel) rfl⟩
theorem mw_X10_goNight : MWV yX10_goNight cX10_goNight 2 none 0 := ⟨⟨inTG 1358 (by decide +kernel) rfl, inTG 132 (by decide +kernel) rfl, ⟨by decide +kernel, by decide +kernel⟩, by decide +kernel⟩, inTG 1357 (by decide +kernel) rfl, inTG 93 (by decide +kernel) rfl⟩
theorem mw_X10_isUp : MWV yX10_isUp cX10_isUp 2 (some .boolean) 1 := ⟨⟨inTG 1362 (by decide +kernel) rfl, inTG 132 (by decide +kernel) rfl, ⟨by decide +kernel, by decide +kernel⟩, by decide +kernel⟩, inTG 1361 (by decide +kernel) rfl, inTG 94 (by decide +kernel) rfl⟩
theorem mw_X10_pass : MWV yX10_pass cX10_pass 3 (some .int) 1 := ⟨⟨inTG 1366 (by decide +kernel) rfl, inTG 132 (by decide +kernel) rfl, ⟨by decide +kernel, by decide +kernel⟩, by decide +kernel⟩, inTG 1364 (by decide +kernel) rfl, inTG 1365 (by decide +kernel) rfl⟩
theorem mw_X10_isEvenings : MWV yX10_isEvenings cX10_isEvenings 2 (some .boolean) 1 := ⟨⟨inTG 1370 (by decide +kernel) rfl, inTG 132 (by decide +kernel) rfl, ⟨by decide +kernel, by decide +kernel⟩, by decide +kernel⟩, inTG 1369 (by decide +kernel) rfl, inTG 95 (by decide +kernel) rfl⟩
theorem mw_X10_of : MWV yX10_of cX10_of 3 (some .int) 2 := ⟨⟨inTG 1374 (by decide +kernel) rfl, inTG 132 (by decide +kernel) rfl, ⟨by decide +kernel, by decide +kernel⟩, by decide +kernel⟩, inTG 1372 (by decide +kernel) rfl, inTG 1373 (by decide +kernel) rfl⟩
theorem mw_X10_left : MWV yX10_left cX10_left 4 (some .int) 1 := ⟨⟨inTG 1378 (by decide +kernel) rfl, inTG 132 (by decide +kernel) rfl, ⟨by decide +kernel, by decide +kernel⟩, by decide +kernel⟩, inTG 1377 (by decide +kernel) rfl, inTG 96 (by decide +kernel) rfl⟩
theorem mw_X10_minded : MWV yX10_minded cX10_minded 3 (some .int) 1 := ⟨⟨inTG 1382 (by decide +kernel) rfl, inTG 132 (by decide +kernel) rfl, ⟨by decide +kernel, by decide +kernel⟩, by decide +kernel⟩, inTG 1381 (by decide +kernel) rfl, inTG 97 (by decide +kernel) rfl⟩
theorem mw_X10_whole_ : MWV yX10_whole_ cX10_whole_ 3 (some .int) 1 := ⟨⟨inTG 1386 (by decide +kernel) rfl, inTG 132 (by decide +kernel) rfl, ⟨by decide +kernel, by decide +kernel⟩, by decide +kernel⟩, inTG 1385 (by decide +kernel) rfl, inTG 98 (by decide +kernel) rfl⟩
theorem mw_X10_save : MWV yX10_save cX10_save 2 none 0 := ⟨⟨inTG 1390 (by decide +kernel) rfl, inTG 132 (by decide +kernel) rfl, ⟨by decide +kernel, by decide +kernel⟩, by decide +kernel⟩, inTG 1389 (by decide +kernel) rfl, inTG 99 (by decide +kernel) rfl⟩
theorem mw_X10_putBack : MWV yX10_putBack cX10_putBack 2 none 0 := ⟨⟨inTG 1394 (by decide +kernel) rfl, inTG 132 (by decide +kernel) rfl, ⟨by decide +kernel, by decide +kernel⟩, by decide +kernel⟩, inTG 1393 (by decide +kernel) rfl, inTG 100 (by decide +kernel) rfl⟩
theorem mw_X10_told : MWV yX10_told cX10_told 2 (some .int) 1 := ⟨⟨inTG 1398 (by decide +kernel) rfl, inTG 132 (by decide +kernel) rfl, ⟨by decide +kernel, by decide +kernel⟩, by decide +kernel⟩, inTG 1396 (by decide +kernel) rfl, inTG 1397 (by decide +kernel) rfl⟩
theorem mw_X10_upMany : MWV yX10_upMany cX10_upMany 3 (some .int) 0 := ⟨⟨inTG 1402 (by decide +kernel) rfl, inTG 132 (by decide +kernel) rfl, ⟨by decide +kernel, by decide +kernel⟩, by decide +kernel⟩, inTG 1401 (by decide +kernel) rfl, inTG 101 (by decide +kernel) rfl⟩
theorem mw_X10_allLeft : MWV yX10_allLeft cX10_allLeft 3 (some .int) 0 := ⟨⟨inTG 1406 (by decide +kernel) rfl, inTG 132 (by decide +kernel) rfl, ⟨by decide +kernel, by decide +kernel⟩, by decide +kernel⟩, inTG 1405 (by decide +kernel) rfl, inTG 102 (by decide +kernel) rfl⟩
theorem mw_X10_on : MWV yX10_on cX10_on 5 (some .int) 3 := ⟨⟨inTG 1410 (by decide +kernel) rfl, inTG 132 (by decide +kernel) rfl, ⟨by decide +kernel, by decide +kernel⟩, by decide +kernel⟩, inTG 1408 (by decide +kernel) rfl, inTG 1409 (by decide +kernel) rfl⟩
theorem mw_X10_goEvenings : MWV yX10_goEvenings cX10_goEvenings 4 none 2 := ⟨⟨inTG 1414 (by decide +kernel) rfl, inTG 132 (by decide +kernel) rfl, ⟨by decide +kernel, by decide +kernel⟩, by decide +kernel⟩, inTG 1413 (by decide +kernel) rfl, inTG 103 (by decide +kernel) rfl⟩
theorem mw_X10_soonest : MWV yX10_soonest cX10_soonest 7 (some .int) 1 := ⟨⟨inTG 1418 (by decide +kernel) rfl, inTG 132 (by decide +kernel) rfl, ⟨by decide +kernel, by decide +kernel⟩, by decide +kernel⟩, inTG 1416 (by decide +kernel) rfl, inTG 1417 (by decide +kernel) rfl⟩
theorem mw_X10_layNews : MWV yX10_layNews cX10_layNews 3 none 0 := ⟨⟨inTG 1422 (by decide +kernel) rfl, inTG 132 (by decide +kernel) rfl, ⟨by decide +kernel, by decide +kernel⟩, by decide +kernel⟩, inTG 1421 (by decide +kernel) rfl, inTG 104 (by decide +kernel) rfl⟩
theorem mw_X10_layTurn : MWV yX10_layTurn cX10_layTurn 5 (some .boolean) 1 := ⟨⟨inTG 1426 (by decide +kernel) rfl, inTG 132 (by decide +kernel) rfl, ⟨by decide +kernel, by decide +kernel⟩, by decide +kernel⟩, inTG 1425 (by decide +kernel) rfl, inTG 105 (by decide +kernel) rfl⟩
theorem mw_X10_goTurn : MWV yX10_goTurn cX10_goTurn 3 (some .int) 0 := ⟨⟨inTG 1430 (by decide +kernel) rfl, inTG 132 (by decide +kernel) rfl, ⟨by decide +kernel, by decide +kernel⟩, by decide +kernel⟩, inTG 1429 (by decide +kernel) rfl, inTG 106 (by decide +kernel) rfl⟩
theorem mw_X10_goWhole : MWV yX10_goWhole cX10_goWhole 3 (some .int) 1 := ⟨⟨inTG 1434 (by decide +kernel) rfl, inTG 132 (by decide +kernel) rfl, ⟨by decide +kernel, by decide +kernel⟩, by decide +kernel⟩, inTG 1433 (by decide +kernel) rfl, inTG 107 (by decide +kernel) rfl⟩
theorem mw_X10_most : MWV yX10_most cX10_most 9 (some .int) 2 := ⟨⟨inTG 1438 (by decide +kernel) rfl, inTG 132 (by decide +kernel) rfl, ⟨by decide +kernel, by decide +kernel⟩, by decide +kernel⟩, inTG 1436 (by decide +kernel) rfl, inTG 1437 (by decide +kernel) rfl⟩
theorem mw_X10_next : MWV yX10_next cX10_next 5 (some .int) 0 := ⟨⟨inTG 1442 (by decide +kernel) rfl, inTG 132 (by decide +kernel) rfl, ⟨by decide +kernel, by decide +kernel⟩, by decide +kernel⟩, inTG 1440 (by decide +kernel) rfl, inTG 1441 (by decide +kernel) rfl⟩
theorem mw_X10_see : MWV yX10_see cX10_see 4 (some .int) 3 := ⟨⟨inTG 1446 (by decide +kernel) rfl, inTG 132 (by decide +kernel) rfl, ⟨by decide +kernel, by decide +kernel⟩, by decide +kernel⟩, inTG 1444 (by decide +kernel) rfl, inTG 1445 (by decide +kernel) rfl⟩
theorem mw_X10_since : MWV yX10_since cX10_since 7 (some .int) 2 := ⟨⟨inTG 1450 (by decide +kernel) rfl, inTG 132 (by decide +kernel) rfl, ⟨by decide +kernel, by decide +kernel⟩, by decide +kernel⟩, inTG 1448 (by decide +kernel) rfl, inTG 1449 (by decide +kernel) rfl⟩
theorem mw_X10_isSeen : MWV yX10_isSeen cX10_isSeen 4 (some .boolean) 1 := ⟨⟨inTG 1454 (by decide +kernel) rfl, inTG 132 (by decide +kernel) rfl, ⟨by decide +kernel, by decide +kernel⟩, by decide +kernel⟩, inTG 1453 (by decide +kernel) rfl, inTG 108 (by decide +kernel) rfl⟩
theorem mw_X10_can : MWV yX10_can cX10_can 7 (some .int) 2 := ⟨⟨inTG 1458 (by decide +kernel) rfl, inTG 132 (by decide +kernel) rfl, ⟨by decide +kernel, by decide +kernel⟩, by decide +kernel⟩, inTG 1456 (by decide +kernel) rfl, inTG 1457 (by decide +kernel) rfl⟩
theorem mw_X10_odds : MWV yX10_odds cX10_odds 5 (some .long) 2 := ⟨⟨inTG 1462 (by decide +kernel) rfl, inTG 132 (by decide +kernel) rfl, ⟨by decide +kernel, by decide +kernel⟩, by decide +kernel⟩, inTG 1460 (by decide +kernel) rfl, inTG 1461 (by decide +kernel) rfl⟩
theorem mw_X10_lowest : MWV yX10_lowest cX10_lowest 5 (some .long) 3 := ⟨⟨inTG 1467 (by decide +kernel) rfl, inTG 132 (by decide +kernel) rfl, ⟨by decide +kernel, by decide +kernel⟩, by decide +kernel⟩, inTG 1466 (by decide +kernel) rfl, inTG 109 (by decide +kernel) rfl⟩
theorem mw_X10_divisor : MWV yX10_divisor cX10_divisor 6 (some .int) 2 := ⟨⟨inTG 1471 (by decide +kernel) rfl, inTG 132 (by decide +kernel) rfl, ⟨by decide +kernel, by decide +kernel⟩, by decide +kernel⟩, inTG 1470 (by decide +kernel) rfl, inTG 110 (by decide +kernel) rfl⟩
theorem mw_X10_mean : MWV yX10_mean cX10_mean 2 (some .long) 1 := ⟨⟨inTG 1475 (by decide +kernel) rfl, inTG 132 (by decide +kernel) rfl, ⟨by decide +kernel, by decide +kernel⟩, by decide +kernel⟩, inTG 1473 (by decide +kernel) rfl, inTG 1474 (by decide +kernel) rfl⟩
theorem mw_X10_month : MWV yX10_month cX10_month 2 (some .int) 1 := ⟨⟨inTG 1479 (by decide +kernel) rfl, inTG 132 (by decide +kernel) rfl, ⟨by decide +kernel, by decide +kernel⟩, by decide +kernel⟩, inTG 1477 (by decide +kernel) rfl, inTG 1478 (by decide +kernel) rfl⟩
theorem mw_X10_ends : MWV yX10_ends cX10_ends 3 (some .int) 1 := ⟨⟨inTG 1483 (by decide +kernel) rfl, inTG 132 (by decide +kernel) rfl, ⟨by decide +kernel, by decide +kernel⟩, by decide +kernel⟩, inTG 1481 (by decide +kernel) rfl, inTG 1482 (by decide +kernel) rfl⟩
theorem mw_X10_book : MWV yX10_book cX10_book 3 (some .int) 2 := ⟨⟨inTG 1487 (by decide +kernel) rfl, inTG 132 (by decide +kernel) rfl, ⟨by decide +kernel, by decide +kernel⟩, by decide +kernel⟩, inTG 1485 (by decide +kernel) rfl, inTG 1486 (by decide +kernel) rfl⟩
theorem mw_X10_looked : MWV yX10_looked cX10_looked 2 (some .int) 0 := ⟨⟨inTG 1491 (by decide +kernel) rfl, inTG 132 (by decide +kernel) rfl, ⟨by decide +kernel, by decide +kernel⟩, by decide +kernel⟩, inTG 1489 (by decide +kernel) rfl, inTG 1490 (by decide +kernel) rfl⟩
theorem mw_X10_judge : MWV yX10_judge cX10_judge 4 (some .int) 2 := ⟨⟨inTG 1495 (by decide +kernel) rfl, inTG 132 (by decide +kernel) rfl, ⟨by decide +kernel, by decide +kernel⟩, by decide +kernel⟩, inTG 1493 (by decide +kernel) rfl, inTG 1494 (by decide +kernel) rfl⟩
theorem mw_X10_isTape : MWV yX10_isTape cX10_isTape 2 (some .boolean) 1 := ⟨⟨inTG 1499 (by decide +kernel) rfl, inTG 132 (by decide +kernel) rfl, ⟨by decide +kernel, by decide +kernel⟩, by decide +kernel⟩, inTG 1498 (by decide +kernel) rfl, inTG 111 (by decide +kernel) rfl⟩
theorem mw_X10_image : MWV yX10_image cX10_image 2 (some .int) 0 := ⟨⟨inTG 1503 (by decide +kernel) rfl, inTG 132 (by decide +kernel) rfl, ⟨by decide +kernel, by decide +kernel⟩, by decide +kernel⟩, inTG 1501 (by decide +kernel) rfl, inTG 1502 (by decide +kernel) rfl⟩
theorem mw_X10_undo : MWV yX10_undo cX10_undo 2 (some .int) 0 := ⟨⟨inTG 1507 (by decide +kernel) rfl, inTG 132 (by decide +kernel) rfl, ⟨by decide +kernel, by decide +kernel⟩, by decide +kernel⟩, inTG 1505 (by decide +kernel) rfl, inTG 1506 (by decide +kernel) rfl⟩
theorem mw_X10_act : MWV yX10_act cX10_act 4 (some .int) 3 := ⟨⟨inTG 1511 (by decide +kernel) rfl, inTG 132 (by decide +kernel) rfl, ⟨by decide +kernel, by decide +kernel⟩, by decide +kernel⟩, inTG 1509 (by decide +kernel) rfl, inTG 1510 (by decide +kernel) rfl⟩
theorem mw_X10_ticksAct : MWV yX10_ticksAct cX10_ticksAct 3 (some .int) 2 := ⟨⟨inTG 1515 (by decide +kernel) rfl, inTG 132 (by decide +kernel) rfl, ⟨by decide +kernel, by decide +kernel⟩, by decide +kernel⟩, inTG 1514 (by decide +kernel) rfl, inTG 112 (by decide +kernel) rfl⟩
theorem mw_X10_body : MWV yX10_body cX10_body 2 none 1 := ⟨⟨inTG 1519 (by decide +kernel) rfl, inTG 132 (by decide +kernel) rfl, ⟨by decide +kernel, by decide +kernel⟩, by decide +kernel⟩, inTG 1518 (by decide +kernel) rfl, inTG 113 (by decide +kernel) rfl⟩
theorem mw_X10_clockTicks : MWV yX10_clockTicks cX10_clockTicks 3 (some .int) 2 := ⟨⟨inTG 1523 (by decide +kernel) rfl, inTG 132 (by decide +kernel) rfl, ⟨by decide +kernel, by decide +kernel⟩, by decide +kernel⟩, inTG 1522 (by decide +kernel) rfl, inTG 114 (by decide +kernel) rfl⟩
theorem mw_X10_strikesAct : MWV yX10_strikesAct cX10_strikesAct 4 (some .int) 2 := ⟨⟨inTG 1527 (by decide +kernel) rfl, inTG 132 (by decide +kernel) rfl, ⟨by decide +kernel, by decide +kernel⟩, by decide +kernel⟩, inTG 1526 (by decide +kernel) rfl, inTG 115 (by decide +kernel) rfl⟩
theorem mw_X10_fastStrikes : MWV yX10_fastStrikes cX10_fastStrikes 3 (some .int) 2 := ⟨⟨inTG 1531 (by decide +kernel) rfl, inTG 132 (by decide +kernel) rfl, ⟨by decide +kernel, by decide +kernel⟩, by decide +kernel⟩, inTG 1530 (by decide +kernel) rfl, inTG 116 (by decide +kernel) rfl⟩
theorem mw_X10_clockStrikes : MWV yX10_clockStrikes cX10_clockStrikes 3 (some .int) 2 := ⟨⟨inTG 1535 (by decide +kernel) rfl, inTG 132 (by decide +kernel) rfl, ⟨by decide +kernel, by decide +kernel⟩, by decide +kernel⟩, inTG 1534 (by decide +kernel) rfl, inTG 117 (by decide +kernel) rfl⟩
theorem mw_X10_tellsAct : MWV yX10_tellsAct cX10_tellsAct 4 (some .int) 2 := ⟨⟨inTG 1539 (by decide +kernel) rfl, inTG 132 (by decide +kernel) rfl, ⟨by decide +kernel, by decide +kernel⟩, by decide +kernel⟩, inTG 1538 (by decide +kernel) rfl, inTG 118 (by decide +kernel) rfl⟩
theorem mw_X10_clockTells : MWV yX10_clockTells cX10_clockTells 3 (some .int) 2 := ⟨⟨inTG 1543 (by decide +kernel) rfl, inTG 132 (by decide +kernel) rfl, ⟨by decide +kernel, by decide +kernel⟩, by decide +kernel⟩, inTG 1542 (by decide +kernel) rfl, inTG 119 (by decide +kernel) rfl⟩
theorem mw_X10_trace : MWV yX10_trace cX10_trace 2 (some .int) 1 := ⟨⟨inTG 1547 (by decide +kernel) rfl, inTG 132 (by decide +kernel) rfl, ⟨by decide +kernel, by decide +kernel⟩, by decide +kernel⟩, inTG 1545 (by decide +kernel) rfl, inTG 1546 (by decide +kernel) rfl⟩
theorem mw_X10_taken : MWV yX10_taken cX10_taken 4 (some .int) 2 := ⟨⟨inTG 1551 (by decide +kernel) rfl, inTG 132 (by decide +kernel) rfl, ⟨by decide +kernel, by decide +kernel⟩, by decide +kernel⟩, inTG 1549 (by decide +kernel) rfl, inTG 1550 (by decide +kernel) rfl⟩
theorem mw_X10_count : MWV yX10_count cX10_count 2 (some .int) 1 := ⟨⟨inTG 1555 (by decide +kernel) rfl, inTG 132 (by decide +kernel) rfl, ⟨by decide +kernel, by decide +kernel⟩, by decide +kernel⟩, inTG 1553 (by decide +kernel) rfl, inTG 1554 (by decide +kernel) rfl⟩
theorem mw_X10_tape : MWV yX10_tape cX10_tape 5 (some .int) 3 := ⟨⟨inTG 1559 (by decide +kernel) rfl, inTG 132 (by decide +kernel) rfl, ⟨by decide +kernel, by decide +kernel⟩, by decide +kernel⟩, inTG 1557 (by decide +kernel) rfl, inTG 1558 (by decide +kernel) rfl⟩
theorem mw_X10_item : MWV yX10_item cX10_item 5 (some .int) 3 := ⟨⟨inTG 1563 (by decide +kernel) rfl, inTG 132 (by decide +kernel) rfl, ⟨by decide +kernel, by decide +kernel⟩, by decide +kernel⟩, inTG 1561 (by decide +kernel) rfl, inTG 1562 (by decide +kernel) rfl⟩
theorem mw_X10_narrow : MWV yX10_narrow cX10_narrow 4 (some .long) 2 := ⟨⟨inTG 1567 (by decide +kernel) rfl, inTG 132 (by decide +kernel) rfl, ⟨by decide +kernel, by decide +kernel⟩, by decide +kernel⟩, inTG 1566 (by decide +kernel) rfl, inTG 120 (by decide +kernel) rfl⟩
theorem mw_X10_read : MWV yX10_read cX10_read 3 (some .long) 2 := ⟨⟨inTG 1571 (by decide +kernel) rfl, inTG 132 (by decide +kernel) rfl, ⟨by decide +kernel, by decide +kernel⟩, by decide +kernel⟩, inTG 1569 (by decide +kernel) rfl, inTG 1570 (by decide +kernel) rfl⟩
theorem mw_X10_shift : MWV yX10_shift cX10_shift 7 (some .int) 5 := ⟨⟨inTG 1575 (by decide +kernel) rfl, inTG 132 (by decide +kernel) rfl, ⟨by decide +kernel, by decide +kernel⟩, by decide +kernel⟩, inTG 1573 (by decide +kernel) rfl, inTG 1574 (by decide +kernel) rfl⟩
end
section
theorem DL.at {c : ByteArray} {L : List (Nat × (Instr × Nat))} (h : DL c L) (i : Nat) {p : Nat} {t : Instr × Nat} (e : L[i]? = some (p, t)) : decode c p = .ok t := h i (p, t) e
-- the pure text's own words
def omat {A B : Type} (q : Option A) (n : B) (f : A → B) : B := match q with | none => n | some z => f z
def lth {B : Type} (h : PH) (K : PH → Option B) : Option B := K h
def jrem (x y : Int32) : Int32 := x - x / y * y
def slen (w : Nat) : Option Int32 := if w < 5 then some (Int32.ofNat (strN.getD w 0)) else none
def schar (w : Nat) (i : Int32) : Option Int32 := if w < 5 then (if inb i (strN.getD w 0) = true then some ((strL.getD w []).getD (ix i) 0) else none) else none
def sidxL (c : Int32) : List Int32 → Int32 → Int32
  | [], _ => -1
  | a :: l, k => if a = c then k else sidxL c l (k + 1)
def sidx (w : Nat) (c : Int32) : Option Int32 := if w < 5 then (if 0 ≤ c.toInt ∧ c.toInt < 128 then some (sidxL c (strL.getD w []) 0) else none) else none
theorem g_if {c : Prop} [Decidable c] {B : Type} {A : Option B} {r : B} (h : (if c then A else none) = some r) : c ∧ A = some r := by
  by_cases hc : c
  · rw [if_pos hc] at h; exact ⟨hc, h⟩
  · rw [if_neg hc] at h; cases h
theorem rq_some (V : Ev) (k : Nat) : rq V (some k) = rf V k := rfl
theorem fits_rq (C : String) (V : Ev) (q : Option Nat) : fits (.object C) (rq V q) = true := by cases q <;> rfl
section More
variable {E : Cx} {V : Ev} {l : Launch} {cc : ByteArray} {own : String} {nL kR rc rs nc ns N : Nat} {ret : Option FieldType} {G : Nat → va_E} {pc : Nat} {lv : List (Nat × Value)} {st : List Value}
theorem q_lth {B : Type} {X : PH → Nat → va_E} {h' : PH} {K : PH → Option B} {r : B} (hm : lth h' K = some r) (kk : ∀ z, K z = some r → PW E V nc ns N (X z) pc lv st) : PW E V nc ns N (X h') pc lv st := kk h' hm
theorem q_deref (hE : CX E V l cc own nL kR rc rs ret) {B : Type} {is : Nat → Bool} {q : Option Nat} {A : Nat → Option B} {r : B} (hm : omat q none (fun z => if is z = true then A z else none) = some r) (kk : ∀ z, is z = true → A z = some r → PW E V nc ns N G pc lv (rf V z :: st)) : PW E V nc ns N G pc lv (rq V q :: st) := by
  cases q with
  | none => cases hm
  | some z =>
    obtain ⟨h1, h2⟩ := g_if (show (if is z = true then A z else none) = some r from hm)
    exact kk z h1 h2
theorem q_ifnonnullO (hE : CX E V l cc own nL kR rc rs ret) {q : Option Nat} {off : Int} {tgt : Nat} {B : Type} {A1 : Option B} {A2 : Nat → Option B} {r : B} (hd : decode cc pc = .ok (.ifnonnull off, 3)) (ht : (pc : Int) + off = (tgt : Int)) (hm : omat q A1 A2 = some r) (kn : q = none → A1 = some r → PW E V nc ns N G (pc + 3) lv st) (kf : ∀ z, q = some z → A2 z = some r → PW E V nc ns N G tgt lv st) : PW E V nc ns N G pc lv (rq V q :: st) := by
  refine q_ifnonnull hE (A1 := A1) (A2 := A2) hd ht ?_ kn kf
  rw [← hm]
  cases q <;> rfl
theorem q_tcase (hE : CX E V l cc own nL kR rc rs ret) {dflt lo hi : Int} {offs : Array Int} {len : Nat} {x : Int32} {B : Type} {A1 A2 : Option B} {r : B} (hd : decode cc pc = .ok (.tableswitch dflt lo hi offs, len)) (c : Int32) (tgt : Nat) (hc : ¬ c.toInt < lo ∧ ¬ hi < c.toInt ∧ offs[(c.toInt - lo).toNat]? = some ((tgt : Int) - (pc : Int))) (hm : (if x = c then A1 else A2) = some r) (kt : x = c → A1 = some r → PW E V nc ns N G tgt lv st) (kf : ¬ x = c → A2 = some r → PW E V nc ns N G pc lv (.int x :: st)) : PW E V nc ns N G pc lv (.int x :: st) := by
  by_cases hx : x = c
  · rw [if_pos hx] at hm
    have k := kt hx hm
    subst hx
    obtain ⟨p, l0, e, R, s, m, args, below, meth, c, Q⟩ := E
    intro H locs ls h1 h2 h3 h4
    exact lv_tableIn hE.1 hE.2.1 hd hc.1 hc.2.1 hc.2.2 (by omega) (k H locs ls h1 h2 h3 h4)
  · rw [if_neg hx] at hm
    exact kf hx hm
theorem q_tdef (hE : CX E V l cc own nL kR rc rs ret) {dflt lo hi : Int} {offs : Array Int} {len : Nat} {x : Int32} {tgt : Nat} (hd : decode cc pc = .ok (.tableswitch dflt lo hi offs, len)) (h : x.toInt < lo ∨ hi < x.toInt) (ht : (pc : Int) + dflt = (tgt : Int)) (kk : PW E V nc ns N G tgt lv st) : PW E V nc ns N G pc lv (.int x :: st) := by
  obtain ⟨p, l0, e, R, s, m, args, below, meth, c, Q⟩ := E
  intro H locs ls h1 h2 h3 h4
  exact lv_tableOut hE.1 hE.2.1 hd h ht (kk H locs ls h1 h2 h3 h4)
theorem q_lcase (hE : CX E V l cc own nL kR rc rs ret) {dflt : Int} {ps : Array (Int × Int)} {len : Nat} {x : Int32} {B : Type} {A1 A2 : Option B} {r : B} (hd : decode cc pc = .ok (.lookupswitch dflt ps, len)) (c : Int32) (tgt : Nat) (hc : (ps.toList.zip (ps.toList.drop 1)).all (fun (a, next) => a.1 < next.1) = true ∧ Op.lookupswitch.offset ps.toList dflt c.toInt = (tgt : Int) - (pc : Int)) (hm : (if x = c then A1 else A2) = some r) (kt : x = c → A1 = some r → PW E V nc ns N G tgt lv st) (kf : ¬ x = c → A2 = some r → PW E V nc ns N G pc lv (.int x :: st)) : PW E V nc ns N G pc lv (.int x :: st) := by
  by_cases hx : x = c
  · rw [if_pos hx] at hm
    have k := kt hx hm
    subst hx
    obtain ⟨p, l0, e, R, s, m, args, below, meth, c, Q⟩ := E
    intro H locs ls h1 h2 h3 h4
    exact lv_lookup hE.1 hE.2.1 hd hc.1 hc.2 (by omega) (k H locs ls h1 h2 h3 h4)
  · rw [if_neg hx] at hm
    exact kf hx hm
theorem q_ldef (hE : CX E V l cc own nL kR rc rs ret) {dflt : Int} {ps : Array (Int × Int)} {len : Nat} {x : Int32} {tgt : Nat} (hd : decode cc pc = .ok (.lookupswitch dflt ps, len)) (hp : (ps.toList.zip (ps.toList.drop 1)).all (fun (a, next) => a.1 < next.1) = true) (ho : Op.lookupswitch.offset ps.toList dflt x.toInt = dflt) (ht : (pc : Int) + dflt = (tgt : Int)) (kk : PW E V nc ns N G tgt lv st) : PW E V nc ns N G pc lv (.int x :: st) := by
  obtain ⟨p, l0, e, R, s, m, args, below, meth, c, Q⟩ := E
  intro H locs ls h1 h2 h3 h4
  exact lv_lookup hE.1 hE.2.1 hd hp ho ht (kk H locs ls h1 h2 h3 h4)
-- the JDK's own methods that are called (their contracts: part 05b)
theorem q_slen (hE : CX E V l cc own nL kR rc rs ret) (hfx : V.2.2.2.2 = false) {idx wd : Nat} {B : Type} {A : Int32 → Option B} {r : B} (hd : decode cc pc = .ok (.invokevirtual idx, 3)) (hw : Cond.methodLink own idx ⟨"java/lang/String", "length", "()I"⟩ ∈ TG) (hkR : Nat.ble 9 kR = true) (hst : Nat.ble (st.map fun v => v.category).sum 8 = true) (hm : omat (slen wd) none A = some r) (kk : ∀ v, A v = some r → PW E V nc ns N G (pc + 3) lv (.int v :: st)) : PW E V nc ns N G pc lv (sf V (2 * wd + 2) :: st) := by
  sorry
theorem q_schar (hE : CX E V l cc own nL kR rc rs ret) (hfx : V.2.2.2.2 = false) {idx wd : Nat} {i : Int32} {B : Type} {A : Int32 → Option B} {r : B} (hd : decode cc pc = .ok (.invokevirtual idx, 3)) (hw : Cond.methodLink own idx ⟨"java/lang/String", "charAt", "(I)C"⟩ ∈ TG) (hkR : Nat.ble 9 kR = true) (hst : Nat.ble (st.map fun v => v.category).sum 8 = true) (hm : omat (schar wd i) none A = some r) (kk : ∀ v, A v = some r → PW E V nc ns N G (pc + 3) lv (.int v :: st)) : PW E V nc ns N G pc lv (.int i :: sf V (2 * wd + 2) :: st) := by
  sorry
theorem q_sidx (hE : CX E V l cc own nL kR rc rs ret) (hfx : V.2.2.2.2 = false) {idx wd : Nat} {i : Int32} {B : Type} {A : Int32 → Option B} {r : B} (hd : decode cc pc = .ok (.invokevirtual idx, 3)) (hw : Cond.methodLink own idx ⟨"java/lang/String", "indexOf", "(I)I"⟩ ∈ TG) (hkR : Nat.ble 9 kR = true) (hst : Nat.ble (st.map fun v => v.category).sum 8 = true) (hm : omat (sidx wd i) none A = some r) (kk : ∀ v, A v = some r → PW E V nc ns N G (pc + 3) lv (.int v :: st)) : PW E V nc ns N G pc lv (.int i :: sf V (2 * wd + 2) :: st) := by
  sorry
theorem q_lfill (hE : CX E V l cc own nL kR rc rs ret) (hfx : V.2.2.2.2 = false) {idx k n : Nat} {x : Int64} {f : Nat → Int64} {G' : Nat → va_E} (hd : decode cc pc = .ok (.invokestatic idx, 3)) (hw : Cond.methodLink own idx ⟨"java/util/Arrays", "fill", "([JJ)V"⟩ ∈ TG) (hG : G k = .inl (V.2.1 2, n, .inr (.inl f))) (hkN : Nat.ble (k + 1) N = true) (hkR : Nat.ble 3 kR = true) (hst : Nat.ble (st.map fun v => v.category).sum 8 = true) (hG' : va_up G k (.inl (V.2.1 2, n, .inr (.inl (fun i => if i < n then x else f i)))) = G') (kk : PW E V nc ns N G' (pc + 3) lv st) : PW E V nc ns N G pc lv (.long x :: rf V k :: st) := by
  sorry
end More
theorem bc_m10 : (Int8.ofInt (-10)).toInt32 = (-10 : Int32) := by decide +kernel
theorem bc_m11 : (Int8.ofInt (-11)).toInt32 = (-11 : Int32) := by decide +kernel
theorem bc_m12 : (Int8.ofInt (-12)).toInt32 = (-12 : Int32) := by decide +kernel
theorem bc_m13 : (Int8.ofInt (-13)).toInt32 = (-13 : Int32) := by decide +kernel
theorem bc_m14 : (Int8.ofInt (-14)).toInt32 = (-14 : Int32) := by decide +kernel
theorem bc_m2 : (Int8.ofInt (-2)).toInt32 = (-2 : Int32) := by decide +kernel
theorem bc_m3 : (Int8.ofInt (-3)).toInt32 = (-3 : Int32) := by decide +kernel
theorem bc_m33 : (Int8.ofInt (-33)).toInt32 = (-33 : Int32) := by decide +kernel
theorem bc_m38 : (Int8.ofInt (-38)).toInt32 = (-38 : Int32) := by decide +kernel
theorem bc_m4 : (Int8.ofInt (-4)).toInt32 = (-4 : Int32) := by decide +kernel
theorem bc_m5 : (Int8.ofInt (-5)).toInt32 = (-5 : Int32) := by decide +kernel
theorem bc_10 : (Int8.ofInt (10)).toInt32 = (10 : Int32) := by decide +kernel
theorem bc_100 : (Int8.ofInt (100)).toInt32 = (100 : Int32) := by decide +kernel
theorem bc_101 : (Int8.ofInt (101)).toInt32 = (101 : Int32) := by decide +kernel
theorem bc_11 : (Int8.ofInt (11)).toInt32 = (11 : Int32) := by decide +kernel
theorem bc_110 : (Int8.ofInt (110)).toInt32 = (110 : Int32) := by decide +kernel
theorem bc_112 : (Int8.ofInt (112)).toInt32 = (112 : Int32) := by decide +kernel
theorem bc_12 : (Int8.ofInt (12)).toInt32 = (12 : Int32) := by decide +kernel
theorem bc_124 : (Int8.ofInt (124)).toInt32 = (124 : Int32) := by decide +kernel
theorem bc_127 : (Int8.ofInt (127)).toInt32 = (127 : Int32) := by decide +kernel
theorem bc_19 : (Int8.ofInt (19)).toInt32 = (19 : Int32) := by decide +kernel
theorem bc_20 : (Int8.ofInt (20)).toInt32 = (20 : Int32) := by decide +kernel
theorem bc_24 : (Int8.ofInt (24)).toInt32 = (24 : Int32) := by decide +kernel
theorem bc_30 : (Int8.ofInt (30)).toInt32 = (30 : Int32) := by decide +kernel
theorem bc_32 : (Int8.ofInt (32)).toInt32 = (32 : Int32) := by decide +kernel
theorem bc_33 : (Int8.ofInt (33)).toInt32 = (33 : Int32) := by decide +kernel
theorem bc_38 : (Int8.ofInt (38)).toInt32 = (38 : Int32) := by decide +kernel
theorem bc_40 : (Int8.ofInt (40)).toInt32 = (40 : Int32) := by decide +kernel
theorem bc_41 : (Int8.ofInt (41)).toInt32 = (41 : Int32) := by decide +kernel
theorem bc_48 : (Int8.ofInt (48)).toInt32 = (48 : Int32) := by decide +kernel
theorem bc_50 : (Int8.ofInt (50)).toInt32 = (50 : Int32) := by decide +kernel
theorem bc_51 : (Int8.ofInt (51)).toInt32 = (51 : Int32) := by decide +kernel
theorem bc_57 : (Int8.ofInt (57)).toInt32 = (57 : Int32) := by decide +kernel
theorem bc_59 : (Int8.ofInt (59)).toInt32 = (59 : Int32) := by decide +kernel
theorem bc_6 : (Int8.ofInt (6)).toInt32 = (6 : Int32) := by decide +kernel
theorem bc_60 : (Int8.ofInt (60)).toInt32 = (60 : Int32) := by decide +kernel
theorem bc_61 : (Int8.ofInt (61)).toInt32 = (61 : Int32) := by decide +kernel
theorem bc_62 : (Int8.ofInt (62)).toInt32 = (62 : Int32) := by decide +kernel
theorem bc_7 : (Int8.ofInt (7)).toInt32 = (7 : Int32) := by decide +kernel
theorem bc_70 : (Int8.ofInt (70)).toInt32 = (70 : Int32) := by decide +kernel
theorem bc_71 : (Int8.ofInt (71)).toInt32 = (71 : Int32) := by decide +kernel
theorem bc_8 : (Int8.ofInt (8)).toInt32 = (8 : Int32) := by decide +kernel
theorem bc_9 : (Int8.ofInt (9)).toInt32 = (9 : Int32) := by decide +kernel
theorem bc_99 : (Int8.ofInt (99)).toInt32 = (99 : Int32) := by decide +kernel
theorem ic_m1 : Int32.ofInt (-1) = (-1 : Int32) := by decide +kernel
theorem ic_0 : Int32.ofInt (0) = (0 : Int32) := by decide +kernel
theorem ic_1 : Int32.ofInt (1) = (1 : Int32) := by decide +kernel
theorem ic_2 : Int32.ofInt (2) = (2 : Int32) := by decide +kernel
theorem ic_3 : Int32.ofInt (3) = (3 : Int32) := by decide +kernel
theorem ic_4 : Int32.ofInt (4) = (4 : Int32) := by decide +kernel
theorem ic_5 : Int32.ofInt (5) = (5 : Int32) := by decide +kernel
theorem lc_0 : Int64.ofNat ((0 : Fin 2) : Nat) = (0 : Int64) := by decide +kernel
theorem lc_1 : Int64.ofNat ((1 : Fin 2) : Nat) = (1 : Int64) := by decide +kernel
theorem nc_24 : Int32.ofNat 24 = (24 : Int32) := by decide +kernel
theorem nc_606 : Int32.ofNat 606 = (606 : Int32) := by decide +kernel
theorem sc_1000 : (Int16.ofInt (1000)).toInt32 = (1000 : Int32) := by decide +kernel
theorem sc_300 : (Int16.ofInt (300)).toInt32 = (300 : Int32) := by decide +kernel
theorem sc_799 : (Int16.ofInt (799)).toInt32 = (799 : Int32) := by decide +kernel
theorem sc_800 : (Int16.ofInt (800)).toInt32 = (800 : Int32) := by decide +kernel
theorem sc_999 : (Int16.ofInt (999)).toInt32 = (999 : Int32) := by decide +kernel
theorem sc_9999 : (Int16.ofInt (9999)).toInt32 = (9999 : Int32) := by decide +kernel
theorem wk_X1_73 : Cond.constant RX1 73 (2147483647 : Int32) ∈ TG := inTG 811 (by decide +kernel) rfl
theorem wk_X10_360 : Cond.constantLong RX10 360 (-9223372036854775808 : Int64) ∈ TG := inTG 1463 (by decide +kernel) rfl
theorem wk_X9_211 : Cond.constantLong RX9 211 (-9223372036854775808 : Int64) ∈ TG := inTG 862 (by decide +kernel) rfl
end
section
def f_X2_passes (F : Nat) (a0 : Int32) (h : PH) : Option (Int32 × PH) := (if (300 : Int32) = 0 then none else (if inb (a0 / (300 : Int32)) 6 = true then (if (100 : Int32) = 0 then none else (if (100 : Int32) = 0 then none else (if (3 : Int32) = 0 then none else (if (jrem (a0 / (100 : Int32)) (3 : Int32)) = (0 : Int32) then (if (jrem a0 (100 : Int32)) ≤ (h.1 15 (ix (a0 / (300 : Int32)))) then (some ((0 : Int32), h)) else (some ((1 : Int32), h))) else (if (jrem (a0 / (100 : Int32)) (3 : Int32)) = (1 : Int32) then (if (h.1 15 (ix (a0 / (300 : Int32)))) = (jrem a0 (100 : Int32)) then (some ((1 : Int32), h)) else (some ((0 : Int32), h))) else (if (h.1 15 (ix (a0 / (300 : Int32)))) ≤ (jrem a0 (100 : Int32)) then (some ((0 : Int32), h)) else (some ((1 : Int32), h)))))))) else none))
def fL_X2_isTrue_6 (F : Nat) : Nat → Nat → Int32 → Int32 → Int32 → PH → Option (Int32 × PH)
  | 0, _, _, _, _, _ => none
  | n + 1, x0, x2, x4, x5, h => (if x2 ≤ x5 then (if (x4 &&& (1 : Int32)) = (1 : Int32) then (some ((1 : Int32), h)) else (some ((0 : Int32), h))) else (if inb x5 100 = true then (if (h.1 (x0 + 3) (ix x5)) = (-1 : Int32) then (fL_X2_isTrue_6 F n x0 x2 (x4 ^^^ (1 : Int32)) (x5 + (1 : Int32)) h) else (if (h.1 (x0 + 3) (ix x5)) = (-2 : Int32) then (fL_X2_isTrue_6 F n x0 x2 ((x4 >>> ((1 : Int32) &&& 31)) &&& (x4 ||| (-2 : Int32))) (x5 + (1 : Int32)) h) else (if (h.1 (x0 + 3) (ix x5)) = (-3 : Int32) then (fL_X2_isTrue_6 F n x0 x2 ((x4 >>> ((1 : Int32) &&& 31)) ||| (x4 &&& (1 : Int32))) (x5 + (1 : Int32)) h) else (bnd (f_X2_passes F (h.1 (x0 + 3) (ix x5)) h) fun v6 h6 => (if v6 = 0 then (fL_X2_isTrue_6 F n x0 x2 ((x4 <<< ((1 : Int32) &&& 31)) ||| (0 : Int32)) (x5 + (1 : Int32)) h6) else (fL_X2_isTrue_6 F n x0 x2 ((x4 <<< ((1 : Int32) &&& 31)) ||| (1 : Int32)) (x5 + (1 : Int32)) h6)))))) else none))
def f_X2_isTrue (F : Nat) (t : Nat) (a1 : Int32) (a2 : Int32) (h : PH) : Option (Int32 × PH) := (if isBench t = true then (fL_X2_isTrue_6 F F t a2 (0 : Int32) a1 h) else none)
def fL_X2_newsBy_7 (F : Nat) : Nat → Nat → Int32 → Int32 → Int32 → PH → Option (Int32 × PH)
  | 0, _, _, _, _, _ => none
  | n + 1, x0, x2, x3, x4, h => (if (h.1 x0 1) ≤ x4 then (some ((if (0 : Int32) < x2 then x2 else (0 : Int32)), h)) else (if inb x4 10 = true then (bnd (f_X2_isTrue F x0 x3 (h.1 (x0 + 2) (ix x4)) h) fun v2 h2 => (if v2 = 0 then (if inb x4 10 = true then (fL_X2_newsBy_7 F n x0 x2 (h2.1 (x0 + 2) (ix x4)) (x4 + (1 : Int32)) h2) else none) else (if inb x4 10 = true then (if inb x4 10 = true then (fL_X2_newsBy_7 F n x0 (x2 + (h2.1 (x0 + 1) (ix x4))) (h2.1 (x0 + 2) (ix x4)) (x4 + (1 : Int32)) h2) else none) else none))) else none))
def f_X2_newsBy (F : Nat) (t : Nat) (h : PH) : Option (Int32 × PH) := (if isBench t = true then (fL_X2_newsBy_7 F F t (1 : Int32) (0 : Int32) (0 : Int32) h) else none)
def fL_X7_learn_100 (F : Nat) (K45 : Int32 → Int32 → PH → Option (Unit × PH)) (x2 : Int32) (x3 : Int32) (xs0 : Int32) (h : PH) : Option (Unit × PH) := (if inb (x2 + x3) 606 = true then (if inb ((x2 + x3) + (1 : Int32)) 606 = true then (lth (wI h 5 (ix ((x2 + x3) + (1 : Int32))) ((h.1 5 (ix (x2 + x3))) + xs0)) fun h10 => (K45 x2 (x3 + (1 : Int32)) h10)) else none) else none)
def fL_X7_learn_45 (F : Nat) : Nat → Int32 → Int32 → PH → Option (Unit × PH)
  | 0, _, _, _ => none
  | n + 1, x2, x3, h => (if (100 : Int32) ≤ x3 then (some ((), h)) else (if (10 : Int32) = 0 then none else (if inb (3 : Int32) 6 = true then (lth (wI h 15 (ix (3 : Int32)) (jrem x3 (10 : Int32))) fun h6 => (if (10 : Int32) = 0 then none else (if inb (4 : Int32) 6 = true then (lth (wI h6 15 (ix (4 : Int32)) (x3 / (10 : Int32))) fun h7 => (if inb (5 : Int32) 6 = true then (lth (wI h7 15 (ix (5 : Int32)) x3) fun h8 => (omat (h8.2.2 1 10) (fL_X7_learn_100 F (fun (x11 : Int32) (x12 : Int32) (h13 : PH) => (fL_X7_learn_45 F n x11 x12 h13)) x2 x3 (1 : Int32) h8) fun z9 => (omat (h8.2.2 1 10) none fun z14 => if isBench z14 = true then (bnd (f_X2_newsBy F z14 h8) fun v15 h15 => (fL_X7_learn_100 F (fun (x16 : Int32) (x17 : Int32) (h18 : PH) => (fL_X7_learn_45 F n x16 x17 h18)) x2 x3 v15 h15)) else none))) else none)) else none))) else none)))
def f_X7_learn (F : Nat) (a1 : Int32) (h : PH) : Option (Unit × PH) := (if inb (0 : Int32) 6 = true then (lth (wI h 15 (ix (0 : Int32)) a1) fun h1 => (if inb a1 6 = true then (if inb (1 : Int32) 6 = true then (lth (wI h1 15 (ix (1 : Int32)) (h1.1 2 (ix a1))) fun h2 => (if inb a1 6 = true then (if inb (2 : Int32) 6 = true then (lth (wI h2 15 (ix (2 : Int32)) (h2.1 3 (ix a1))) fun h3 => (if inb (a1 * (101 : Int32)) 606 = true then (lth (wI h3 5 (ix (a1 * (101 : Int32))) (0 : Int32)) fun h4 => (fL_X7_learn_45 F F (a1 * (101 : Int32)) (0 : Int32) h4)) else none)) else none) else none)) else none) else none)) else none)
def fL_X7_enter_65 (F : Nat) : Nat → Int32 → Int32 → PH → Option (Int32 × PH)
  | 0, _, _, _ => none
  | n + 1, x4, x5, h => (if (4 : Int32) ≤ x5 then (bnd (f_X7_learn F x4 h) fun v7 h7 => (some (x4, h7))) else (if inb ((x4 * (4 : Int32)) + x5) 24 = true then (lth (wI h 4 (ix ((x4 * (4 : Int32)) + x5)) (0 : Int32)) fun h8 => (fL_X7_enter_65 F n x4 (x5 + (1 : Int32)) h8)) else none))
def f_X7_enter (F : Nat) (a1 : Int32) (a2 : Int32) (a3 : Int32) (h : PH) : Option (Int32 × PH) := (lth (wI h 1 0 ((h.1 1 0) + (1 : Int32))) fun h1 => (if inb (h.1 1 0) 6 = true then (lth (wI h1 2 (ix (h.1 1 0)) a1) fun h2 => (if inb (h.1 1 0) 6 = true then (lth (wI h2 3 (ix (h.1 1 0)) a2) fun h3 => (if inb (h.1 1 0) 6 = true then (lth (wI h3 7 (ix (h.1 1 0)) ((h3.1 6 0) - a3)) fun h4 => (if inb (h.1 1 0) 6 = true then (lth (wI h4 8 (ix (h.1 1 0)) (vp_nar .boolean (0 : Int32))) fun h5 => (fL_X7_enter_65 F F (h.1 1 0) (0 : Int32) h5)) else none)) else none)) else none)) else none))
def f_X9_within (F : Nat) (a0 : Int32) (a1 : Int32) (a2 : Int32) (h : PH) : Option (Int32 × PH) := (if a0 < a1 then (some ((0 : Int32), h)) else (if a2 < a0 then (some ((0 : Int32), h)) else (some ((1 : Int32), h))))
def f_X9_clock (F : Nat) (a1 : Int32) (a2 : Int32) (a3 : Int32) (h : PH) : Option (Int32 × PH) := (bnd (f_X9_within F a1 (0 : Int32) (6 : Int32) h) fun v1 h1 => (if v1 = 0 then (some ((-1 : Int32), h1)) else (bnd (f_X9_within F a2 (0 : Int32) (9 : Int32) h1) fun v3 h3 => (if v3 = 0 then (some ((-2 : Int32), h3)) else (bnd (f_X9_within F a3 (0 : Int32) (h3.1 6 0) h3) fun v5 h5 => (if v5 = 0 then (some ((-2 : Int32), h5)) else (if (h5.1 1 0) < (6 : Int32) then (bnd (f_X7_enter F a1 a2 a3 h5) fun v8 h8 => (some (v8, h8))) else (some ((-4 : Int32), h5)))))))))
def f_X7_newsOf (F : Nat) (a1 : Int32) (a2 : Int32) (h : PH) : Option (Int32 × PH) := (if (100 : Int32) = 0 then none else (if inb (((a1 * (101 : Int32)) + (jrem a2 (100 : Int32))) + (1 : Int32)) 606 = true then (if inb ((a1 * (101 : Int32)) + (jrem a2 (100 : Int32))) 606 = true then (some (((h.1 5 (ix (((a1 * (101 : Int32)) + (jrem a2 (100 : Int32))) + (1 : Int32)))) - (h.1 5 (ix ((a1 * (101 : Int32)) + (jrem a2 (100 : Int32)))))), h)) else none) else none))
def fL_X7_minds_19 (F : Nat) (x1 : Int32) (x2 : Int32) (x3 : Int32) (h : PH) : Option (Int32 × PH) := (if inb x1 6 = true then (if x3 = (5 : Int32) then (if ((h.1 3 (ix x1)) + (2 : Int32)) = 0 then none else (if (jrem x2 ((h.1 3 (ix x1)) + (2 : Int32))) = 0 then (some ((0 : Int32), h)) else (bnd (f_X7_newsOf F x1 x2 h) fun v6 h6 => (if v6 ≤ ((h.1 3 (ix x1)) + (3 : Int32)) then (some ((0 : Int32), h6)) else (some ((1 : Int32), h6)))))) else (bnd (f_X7_newsOf F x1 x2 h) fun v3 h3 => (if v3 ≤ ((h.1 3 (ix x1)) + (3 : Int32)) then (some ((0 : Int32), h3)) else (some ((1 : Int32), h3))))) else none)
def f_X7_minds (F : Nat) (a1 : Int32) (a2 : Int32) (h : PH) : Option (Int32 × PH) := (if inb a1 6 = true then (if (h.1 2 (ix a1)) = (2 : Int32) then (fL_X7_minds_19 F a1 a2 (h.1 2 (ix a1)) h) else (if (h.1 2 (ix a1)) = (5 : Int32) then (fL_X7_minds_19 F a1 a2 (h.1 2 (ix a1)) h) else (some ((0 : Int32), h)))) else none)
def fL_X1_minded_31 (F : Nat) : Nat → Int32 → Int32 → PH → Option (Int32 × PH)
  | 0, _, _, _ => none
  | n + 1, x1, x2, h => (if (h.1 6 0) ≤ x2 then (some ((-5 : Int32), h)) else (bnd (f_X7_minds F x1 x2 h) fun v3 h3 => (if v3 = 0 then (fL_X1_minded_31 F n x1 (x2 + (1 : Int32)) h3) else (some (x2, h3)))))
def f_X1_minded (F : Nat) (a1 : Int32) (h : PH) : Option (Int32 × PH) := (if inb a1 6 = true then (if (h.1 8 (ix a1)) = 0 then (if inb a1 6 = true then (fL_X1_minded_31 F F a1 (h.1 7 (ix a1)) h) else none) else (some ((-5 : Int32), h))) else none)
def fL_X3_copyFrom_10 (F : Nat) : Nat → Nat → Nat → Int32 → PH → Option (Unit × PH)
  | 0, _, _, _, _ => none
  | n + 1, x0, x1, x2, h => (if (6 : Int32) ≤ x2 then (some ((), h)) else (if inb x2 6 = true then (if inb x2 6 = true then (lth (wI h (x0 + 1) (ix x2) (h.1 (x1 + 1) (ix x2))) fun h3 => (if inb x2 6 = true then (if inb x2 6 = true then (lth (wI h3 (x0 + 2) (ix x2) (vp_nar .boolean (h3.1 (x1 + 2) (ix x2)))) fun h4 => (fL_X3_copyFrom_10 F n x0 x1 (x2 + (1 : Int32)) h4)) else none) else none)) else none) else none))
def f_X3_copyFrom (F : Nat) (t : Nat) (a1 : Nat) (h : PH) : Option (Unit × PH) := (if isCourse t = true then (if isCourse a1 = true then (lth (wI h t 0 (h.1 a1 0)) fun h1 => (fL_X3_copyFrom_10 F F t a1 (0 : Int32) h1)) else none) else none)
def f_X1_begin (F : Nat)  (h : PH) : Option (Unit × PH) := (bnd (f_X3_copyFrom F 35 6 h) fun v1 h1 => (some ((), h1)))
def f_X3_isUp (F : Nat) (t : Nat) (a1 : Int32) (h : PH) : Option (Int32 × PH) := (if isCourse t = true then (if inb a1 6 = true then (if (h.1 (t + 1) (ix a1)) = (h.1 t 0) then (some ((1 : Int32), h)) else (some ((0 : Int32), h))) else none) else none)
def f_X7_pace (F : Nat)  (h : PH) : Option (Int32 × PH) := (omat (h.2.2 1 10) (some ((10 : Int32), h)) fun z1 => (omat (h.2.2 1 10) none fun z2 => if isBench z2 = true then (some ((h.1 z2 0), h)) else none))
def f_X7_holds (F : Nat) (a1 : Int32) (a2 : Int32) (h : PH) : Option (Int32 × PH) := (bnd (f_X7_pace F  h) fun v1 h1 => (if inb a1 6 = true then (if (h1.1 2 (ix a1)) = (1 : Int32) then (some ((v1 * (2 : Int32)), h1)) else (if (h1.1 2 (ix a1)) = (2 : Int32) then (some (v1, h1)) else (if (h1.1 2 (ix a1)) = (3 : Int32) then (if (2 : Int32) = 0 then none else (some ((if (1 : Int32) < (v1 / (2 : Int32)) then (v1 / (2 : Int32)) else (1 : Int32)), h1))) else (if (h1.1 2 (ix a1)) = (4 : Int32) then (if inb a1 6 = true then (some (((v1 * (2 : Int32)) + (h1.1 3 (ix a1))), h1)) else none) else (if (h1.1 2 (ix a1)) = (5 : Int32) then (some (v1, h1)) else (if (h1.1 2 (ix a1)) = (6 : Int32) then (if (2 : Int32) = 0 then none else (if (4 : Int32) = 0 then none else (if inb ((a1 * (4 : Int32)) + (jrem a2 (4 : Int32))) 24 = true then (some (((if (1 : Int32) < (v1 / (2 : Int32)) then (v1 / (2 : Int32)) else (1 : Int32)) + (h1.1 4 (ix ((a1 * (4 : Int32)) + (jrem a2 (4 : Int32)))))), h1)) else none))) else (some (v1, h1)))))))) else none))
def fL_X7_night_2 (F : Nat) : Nat → Nat → Int32 → PH → Option (Unit × PH)
  | 0, _, _, _ => none
  | n + 1, x1, x2, h => (if (h.1 1 0) ≤ x2 then (lth (wI h x1 0 ((h.1 x1 0) + (1 : Int32))) fun h2 => (some ((), h2))) else (bnd (f_X3_isUp F x1 x2 h) fun v3 h3 => (if v3 = 0 then (fL_X7_night_2 F n x1 (x2 + (1 : Int32)) h3) else (if inb x2 6 = true then (if inb x2 6 = true then (lth (wI h3 (x1 + 1) (ix x2) ((h3.1 (x1 + 1) (ix x2)) + (1 : Int32))) fun h5 => (fL_X7_night_2 F n x1 (x2 + (1 : Int32)) h5)) else none) else none))))
def f_X7_night (F : Nat) (a1 : Nat) (h : PH) : Option (Unit × PH) := (if isCourse a1 = true then (fL_X7_night_2 F F a1 (0 : Int32) h) else none)
def fL_X7_evening_13 (F : Nat) : Nat → Nat → Int32 → Int32 → Int32 → PH → Option (Int32 × PH)
  | 0, _, _, _, _, _ => none
  | n + 1, x1, x2, x3, x4, h => (if (30 : Int32) ≤ x4 then (bnd (f_X7_night F x1 h) fun v3 h3 => (some (x4, h3))) else (if inb x2 6 = true then (if (h.1 x1 0) ≤ (h.1 (x1 + 1) (ix x2)) then (bnd (f_X7_night F x1 h) fun v5 h5 => (some (x4, h5))) else (if inb x2 6 = true then (if (h.1 (x1 + 2) (ix x2)) = 0 then (if inb x2 6 = true then (bnd (f_X7_newsOf F x2 (h.1 (x1 + 1) (ix x2)) h) fun v8 h8 => (bnd (f_X7_minds F x2 (h.1 (x1 + 1) (ix x2)) h8) fun v9 h9 => (if v9 = 0 then (if x4 = 0 then (if inb x2 6 = true then (if inb x2 6 = true then (lth (wI h9 (x1 + 1) (ix x2) ((h9.1 (x1 + 1) (ix x2)) + (1 : Int32))) fun h12 => (fL_X7_evening_13 F n x1 x2 (x3 - v8) (x4 + (1 : Int32)) h12)) else none) else none) else (if x3 < v8 then (bnd (f_X7_night F x1 h9) fun v14 h14 => (some (x4, h14))) else (if inb x2 6 = true then (if inb x2 6 = true then (lth (wI h9 (x1 + 1) (ix x2) ((h9.1 (x1 + 1) (ix x2)) + (1 : Int32))) fun h15 => (fL_X7_evening_13 F n x1 x2 (x3 - v8) (x4 + (1 : Int32)) h15)) else none) else none))) else (if inb x2 6 = true then (lth (wI h9 (x1 + 2) (ix x2) (vp_nar .boolean (1 : Int32))) fun h16 => (fL_X7_evening_13 F n x1 x2 x3 x4 h16)) else none)))) else none) else (bnd (f_X7_night F x1 h) fun v7 h7 => (some (x4, h7)))) else none)) else none))
def f_X7_evening (F : Nat) (a1 : Nat) (a2 : Int32) (h : PH) : Option (Int32 × PH) := (if isCourse a1 = true then (bnd (f_X7_holds F a2 (h.1 a1 0) h) fun v1 h1 => (fL_X7_evening_13 F F a1 a2 v1 (0 : Int32) h1)) else none)
def fL_X1_whole_6 (F : Nat) : Nat → Int32 → Int32 → PH → Option (Int32 × PH)
  | 0, _, _, _ => none
  | n + 1, x1, x2, h => (if (60 : Int32) < x2 then (some ((-5 : Int32), h)) else (bnd (f_X3_isUp F 35 x1 h) fun v3 h3 => (if v3 = 0 then (bnd (f_X7_evening F 35 x1 h3) fun v5 h5 => (fL_X1_whole_6 F n x1 (x2 + (1 : Int32)) h5)) else (some (x2, h3)))))
def f_X1_whole (F : Nat) (a1 : Int32) (h : PH) : Option (Int32 × PH) := (bnd (f_X1_begin F  h) fun v1 h1 => (fL_X1_whole_6 F F a1 (0 : Int32) h1))
def f_X7_newsAhead (F : Nat) (a1 : Int32) (a2 : Int32) (h : PH) : Option (Int32 × PH) := (if (100 : Int32) = 0 then none else (if inb ((a1 * (101 : Int32)) + (100 : Int32)) 606 = true then (if (100 : Int32) = 0 then none else (if inb ((a1 * (101 : Int32)) + (jrem a2 (100 : Int32))) 606 = true then (some ((((a2 / (100 : Int32)) * (h.1 5 (ix ((a1 * (101 : Int32)) + (100 : Int32))))) + (h.1 5 (ix ((a1 * (101 : Int32)) + (jrem a2 (100 : Int32)))))), h)) else none)) else none))
def f_X7_leftOf (F : Nat) (a1 : Nat) (a2 : Int32) (h : PH) : Option (Int32 × PH) := (if isCourse a1 = true then (bnd (f_X7_newsAhead F a2 (h.1 a1 0) h) fun v1 h1 => (if inb a2 6 = true then (bnd (f_X7_newsAhead F a2 (h1.1 (a1 + 1) (ix a2)) h1) fun v2 h2 => (some ((v1 - v2), h2))) else none)) else none)
def f_X9_isClock (F : Nat) (a1 : Int32) (h : PH) : Option (Int32 × PH) := (if a1 < 0 then (some ((0 : Int32), h)) else (if (h.1 1 0) ≤ a1 then (some ((0 : Int32), h)) else (some ((1 : Int32), h))))
def f_X9_of (F : Nat) (a1 : Int32) (a2 : Int32) (h : PH) : Option (Int32 × PH) := (bnd (f_X9_isClock F a1 h) fun v1 h1 => (if v1 = 0 then (some ((-1 : Int32), h1)) else (if a2 = (0 : Int32) then (if inb a1 6 = true then (some ((h1.1 2 (ix a1)), h1)) else none) else (if a2 = (1 : Int32) then (if inb a1 6 = true then (some ((h1.1 3 (ix a1)), h1)) else none) else (if a2 = (2 : Int32) then (if inb a1 6 = true then (some ((h1.1 7 (ix a1)), h1)) else none) else (if a2 = (3 : Int32) then (if inb a1 6 = true then (if (h1.1 8 (ix a1)) = 0 then (some ((0 : Int32), h1)) else (some ((1 : Int32), h1))) else none) else (if a2 = (4 : Int32) then (bnd (f_X7_leftOf F 6 a1 h1) fun v5 h5 => (some (v5, h5))) else (if a2 = (5 : Int32) then (bnd (f_X7_holds F a1 (h1.1 6 0) h1) fun v6 h6 => (some (v6, h6))) else (if a2 = (6 : Int32) then (bnd (f_X1_minded F a1 h1) fun v7 h7 => (some (v7, h7))) else (if a2 = (7 : Int32) then (bnd (f_X1_whole F a1 h1) fun v8 h8 => (some (v8, h8))) else (some ((-1 : Int32), h1))))))))))))
def f_X9_news (F : Nat) (a1 : Int32) (a2 : Int32) (h : PH) : Option (Int32 × PH) := (bnd (f_X9_isClock F a1 h) fun v1 h1 => (if v1 = 0 then (some ((-1 : Int32), h1)) else (bnd (f_X9_within F a2 (0 : Int32) (9999 : Int32) h1) fun v3 h3 => (if v3 = 0 then (some ((-2 : Int32), h3)) else (bnd (f_X7_newsOf F a1 a2 h3) fun v5 h5 => (some (v5, h5)))))))
def f_X9_set (F : Nat) (a1 : Int32) (a2 : Int32) (h : PH) : Option (Int32 × PH) := (bnd (f_X9_isClock F a1 h) fun v1 h1 => (if v1 = 0 then (some ((-1 : Int32), h1)) else (bnd (f_X9_within F a2 (0 : Int32) (h1.1 6 0) h1) fun v3 h3 => (if v3 = 0 then (some ((-2 : Int32), h3)) else (if inb a1 6 = true then (if inb a1 6 = true then (lth (wI h3 7 (ix a1) a2) fun h5 => (some ((h3.1 7 (ix a1)), h5))) else none) else none)))))
def f_X9_balk (F : Nat) (a1 : Int32) (a2 : Int32) (h : PH) : Option (Int32 × PH) := (bnd (f_X9_isClock F a1 h) fun v1 h1 => (if v1 = 0 then (some ((-1 : Int32), h1)) else (if inb a1 6 = true then (if (h1.1 8 (ix a1)) = 0 then (if inb a1 6 = true then (lth (wI h1 8 (ix a1) (vp_nar .boolean a2)) fun h4 => (some ((0 : Int32), h4))) else none) else (if inb a1 6 = true then (lth (wI h1 8 (ix a1) (vp_nar .boolean a2)) fun h5 => (some ((1 : Int32), h5))) else none)) else none)))
def f_X9_row (F : Nat) (a1 : Int32) (a2 : Int32) (a3 : Int32) (h : PH) : Option (Int32 × PH) := (bnd (f_X9_isClock F a1 h) fun v1 h1 => (if v1 = 0 then (some ((-1 : Int32), h1)) else (bnd (f_X9_within F a2 (0 : Int32) (3 : Int32) h1) fun v3 h3 => (if v3 = 0 then (some ((-1 : Int32), h3)) else (bnd (f_X9_within F a3 (0 : Int32) (9 : Int32) h3) fun v5 h5 => (if v5 = 0 then (some ((-2 : Int32), h5)) else (if inb a1 6 = true then (if (h5.1 2 (ix a1)) = (6 : Int32) then (if inb ((a1 * (4 : Int32)) + a2) 24 = true then (if inb ((a1 * (4 : Int32)) + a2) 24 = true then (lth (wI h5 4 (ix ((a1 * (4 : Int32)) + a2)) a3) fun h8 => (some ((h5.1 4 (ix ((a1 * (4 : Int32)) + a2))), h8))) else none) else none) else (some ((-3 : Int32), h5))) else none)))))))
def f_X5_take (F : Nat) (a1 : Int32) (h : PH) : Option (Int32 × PH) := (if (h.1 31 1) < (100 : Int32) then (if inb (h.1 31 1) 100 = true then (lth (wI h 32 (ix (h.1 31 1)) (vp_nar .byte a1)) fun h2 => (lth (wI h2 31 1 ((h2.1 31 1) + (1 : Int32))) fun h3 => (some ((1 : Int32), h3)))) else none) else (some ((0 : Int32), h)))
def f_X9_feed (F : Nat) (a1 : Int32) (h : PH) : Option (Int32 × PH) := (bnd (f_X9_within F a1 (0 : Int32) (127 : Int32) h) fun v1 h1 => (if v1 = 0 then (some ((-2 : Int32), h1)) else (bnd (f_X5_take F (a1.toInt8.toInt32) h1) fun v3 h3 => (if v3 = 0 then (some ((-4 : Int32), h3)) else (some ((h3.1 31 1), h3))))))
def f_X2_clear (F : Nat) (t : Nat) (h : PH) : Option (Unit × PH) := (if isBench t = true then (lth (wI h t 0 (10 : Int32)) fun h1 => (lth (wI h1 t 1 (0 : Int32)) fun h2 => (lth (wI h2 t 4 (0 : Int32)) fun h3 => (some ((), h3))))) else none)
def f_X2_addClause (F : Nat) (t : Nat) (a1 : Int32) (h : PH) : Option (Unit × PH) := (if isBench t = true then (if (10 : Int32) ≤ (h.1 t 1) then (some ((), h)) else (if inb (h.1 t 1) 10 = true then (lth (wI h (t + 1) (ix (h.1 t 1)) a1) fun h2 => (if inb (h2.1 t 1) 10 = true then (lth (wI h2 (t + 2) (ix (h2.1 t 1)) (h2.1 t 4)) fun h3 => (lth (wI h3 t 1 ((h3.1 t 1) + (1 : Int32))) fun h4 => (some ((), h4)))) else none)) else none)) else none)
def f_X2_addStep (F : Nat) (t : Nat) (a1 : Int32) (h : PH) : Option (Unit × PH) := (if isBench t = true then (if (100 : Int32) ≤ (h.1 t 4) then (some ((), h)) else (if inb (h.1 t 4) 100 = true then (lth (wI h (t + 3) (ix (h.1 t 4)) a1) fun h2 => (lth (wI h2 t 4 ((h2.1 t 4) + (1 : Int32))) fun h3 => (some ((), h3)))) else none)) else none)
def f_X5_step (F : Nat)  (h : PH) : Option (Unit × PH) := (lth (wI h 31 2 ((h.1 31 2) + (1 : Int32))) fun h1 => (if (h1.1 31 1) ≤ (h1.1 31 2) then (lth (wI h1 31 3 (-1 : Int32)) fun h3 => (some ((), h3))) else (if inb (h1.1 31 2) 100 = true then (lth (wI h1 31 3 (h1.1 32 (ix (h1.1 31 2)))) fun h4 => (some ((), h4))) else none)))
def f_X2_testStep (F : Nat) (a0 : Int32) (a1 : Int32) (a2 : Int32) (h : PH) : Option (Int32 × PH) := (some ((((a0 * (300 : Int32)) + (a1 * (100 : Int32))) + a2), h))
def f_X5_choice (F : Nat) (a1 : Nat) (h : PH) : Option (Int32 × PH) := (if (h.1 31 4) = 0 then (if (h.1 31 3) = (-1 : Int32) then (if 0 ≤ (-1 : Int32) then (bnd (f_X5_step F  h) fun v11 h11 => (some ((-1 : Int32), h11))) else (lth (wI h 31 4 (1 : Int32)) fun h12 => (some ((0 : Int32), h12)))) else (omat (sidx a1 (((h.1 31 3).toUInt32 % 65536).toInt32)) none fun v6 => (if 0 ≤ v6 then (bnd (f_X5_step F  h) fun v8 h8 => (some (v6, h8))) else (lth (wI h 31 4 (1 : Int32)) fun h9 => (some ((0 : Int32), h9)))))) else (if 0 ≤ (-1 : Int32) then (bnd (f_X5_step F  h) fun v3 h3 => (some ((-1 : Int32), h3))) else (lth (wI h 31 4 (1 : Int32)) fun h4 => (some ((0 : Int32), h4)))))
def f_X5_need (F : Nat) (a1 : Int32) (h : PH) : Option (Unit × PH) := (if (h.1 31 4) = 0 then (if (h.1 31 3) = a1 then (bnd (f_X5_step F  h) fun v5 h5 => (some ((), h5))) else (lth (wI h 31 4 (1 : Int32)) fun h4 => (some ((), h4)))) else (lth (wI h 31 4 (1 : Int32)) fun h2 => (some ((), h2))))
def f_X5_isDigit (F : Nat)  (h : PH) : Option (Int32 × PH) := (if (h.1 31 3) < (48 : Int32) then (some ((0 : Int32), h)) else (if (57 : Int32) < (h.1 31 3) then (some ((0 : Int32), h)) else (some ((1 : Int32), h))))
def f_X5_number (F : Nat)  (h : PH) : Option (Int32 × PH) := (if (h.1 31 4) = 0 then (bnd (f_X5_isDigit F  h) fun v3 h3 => (if v3 = 0 then (lth (wI h3 31 4 (1 : Int32)) fun h9 => (some ((0 : Int32), h9))) else (bnd (f_X5_step F  h3) fun v5 h5 => (bnd (f_X5_isDigit F  h5) fun v6 h6 => (if v6 = 0 then (some (((h3.1 31 3) - (48 : Int32)), h6)) else (bnd (f_X5_step F  h6) fun v8 h8 => (some ((((((h3.1 31 3) - (48 : Int32)) * (10 : Int32)) + (h6.1 31 3)) - (48 : Int32)), h8)))))))) else (lth (wI h 31 4 (1 : Int32)) fun h2 => (some ((0 : Int32), h2))))
def fL_X5_either_7 (F : Nat) (G : Nat → Int32 → PH → Option (Unit × PH)) : Nat → Int32 → Int32 → PH → Option (Unit × PH)
  | 0, _, _, _ => none
  | n + 1, x1, x2, h => (if (100 : Int32) ≤ x2 then (some ((), h)) else (if (h.1 31 4) = 0 then (if (h.1 31 3) = (124 : Int32) then (bnd (f_X5_step F  h) fun v5 h5 => (bnd (G 1 x1 h5) fun v6 h6 => (omat (h6.2.2 31 5) none fun z7 => if isBench z7 = true then (bnd (f_X2_addStep F z7 (-3 : Int32) h6) fun v8 h8 => (fL_X5_either_7 F G n x1 (x2 + (1 : Int32)) h8)) else none))) else (some ((), h))) else (some ((), h))))
def b_X5_either (F : Nat) (G : Nat → Int32 → PH → Option (Unit × PH)) (a1 : Int32) (h : PH) : Option (Unit × PH) := (bnd (G 1 a1 h) fun v1 h1 => (fL_X5_either_7 F G F a1 (0 : Int32) h1))
def fL_X5_both_7 (F : Nat) (G : Nat → Int32 → PH → Option (Unit × PH)) : Nat → Int32 → Int32 → PH → Option (Unit × PH)
  | 0, _, _, _ => none
  | n + 1, x1, x2, h => (if (100 : Int32) ≤ x2 then (some ((), h)) else (if (h.1 31 4) = 0 then (if (h.1 31 3) = (38 : Int32) then (bnd (f_X5_step F  h) fun v5 h5 => (bnd (G 2 x1 h5) fun v6 h6 => (omat (h6.2.2 31 5) none fun z7 => if isBench z7 = true then (bnd (f_X2_addStep F z7 (-2 : Int32) h6) fun v8 h8 => (fL_X5_both_7 F G n x1 (x2 + (1 : Int32)) h8)) else none))) else (some ((), h))) else (some ((), h))))
def b_X5_both (F : Nat) (G : Nat → Int32 → PH → Option (Unit × PH)) (a1 : Int32) (h : PH) : Option (Unit × PH) := (bnd (G 2 a1 h) fun v1 h1 => (fL_X5_both_7 F G F a1 (0 : Int32) h1))
def fL_X5_factor_78 (F : Nat) (G : Nat → Int32 → PH → Option (Unit × PH))  (h : PH) : Option (Unit × PH) := (bnd (f_X5_choice F 3 h) fun v4 h4 => (bnd (f_X5_choice F 4 h4) fun v5 h5 => (omat (h5.2.2 31 5) none fun z6 => if isBench z6 = true then (bnd (f_X5_number F  h5) fun v7 h7 => (bnd (f_X2_testStep F v4 v5 v7 h7) fun v8 h8 => (bnd (f_X2_addStep F z6 v8 h8) fun v9 h9 => (some ((), h9))))) else none)))
def fL_X5_factor_44 (F : Nat) (G : Nat → Int32 → PH → Option (Unit × PH)) (x1 : Int32) (h : PH) : Option (Unit × PH) := (if (h.1 31 3) = (40 : Int32) then (if (4 : Int32) ≤ x1 then (fL_X5_factor_78 F G  h) else (bnd (f_X5_step F  h) fun v11 h11 => (bnd (G 0 (x1 + (1 : Int32)) h11) fun v12 h12 => (bnd (f_X5_need F (41 : Int32) h12) fun v13 h13 => (some ((), h13)))))) else (fL_X5_factor_78 F G  h))
def b_X5_factor (F : Nat) (G : Nat → Int32 → PH → Option (Unit × PH)) (a1 : Int32) (h : PH) : Option (Unit × PH) := (if (h.1 31 4) = 0 then (if (h.1 31 3) = (33 : Int32) then (if (4 : Int32) ≤ a1 then (fL_X5_factor_44 F G a1 h) else (bnd (f_X5_step F  h) fun v15 h15 => (bnd (G 2 (a1 + (1 : Int32)) h15) fun v16 h16 => (omat (h16.2.2 31 5) none fun z17 => if isBench z17 = true then (bnd (f_X2_addStep F z17 (-1 : Int32) h16) fun v18 h18 => (some ((), h18))) else none)))) else (fL_X5_factor_44 F G a1 h)) else (some ((), h)))
def f_grp_X5_either (F : Nat) : Nat → Nat → Int32 → PH → Option (Unit × PH)
  | 0, _, _, _ => none
  | d + 1, w, a1, h => if w = 0 then b_X5_either F (f_grp_X5_either F d) a1 h else if w = 1 then b_X5_both F (f_grp_X5_either F d) a1 h else b_X5_factor F (f_grp_X5_either F d) a1 h
def fL_X5_word_2 (F : Nat) : Nat → Nat → Int32 → PH → Option (Unit × PH)
  | 0, _, _, _ => none
  | n + 1, x1, x2, h => (omat (slen x1) none fun v1 => (if v1 ≤ x2 then (bnd (f_X5_need F (32 : Int32) h) fun v3 h3 => (some ((), h3))) else (omat (schar x1 x2) none fun v4 => (bnd (f_X5_need F v4 h) fun v5 h5 => (fL_X5_word_2 F n x1 (x2 + (1 : Int32)) h5)))))
def f_X5_word (F : Nat) (a1 : Nat) (h : PH) : Option (Unit × PH) := (fL_X5_word_2 F F a1 (0 : Int32) h)
def fL_X5_clause_58 (F : Nat) (x1 : Int32) (xs1 : Nat) (h : PH) : Option (Unit × PH) := (bnd (f_X5_word F xs1 h) fun v4 h4 => (if x1 = 0 then (bnd (f_X5_number F  h4) fun v6 h6 => (bnd (f_X5_need F (32 : Int32) h6) fun v7 h7 => (bnd (f_grp_X5_either F 50 0 (0 : Int32) h7) fun v8 h8 => (omat (h8.2.2 31 5) none fun z9 => if isBench z9 = true then (bnd (f_X2_addClause F z9 (-v6) h8) fun v10 h10 => (some ((), h10))) else none)))) else (bnd (f_X5_number F  h4) fun v11 h11 => (bnd (f_X5_need F (32 : Int32) h11) fun v12 h12 => (bnd (f_grp_X5_either F 50 0 (0 : Int32) h12) fun v13 h13 => (omat (h13.2.2 31 5) none fun z14 => if isBench z14 = true then (bnd (f_X2_addClause F z14 v11 h13) fun v15 h15 => (some ((), h15))) else none))))))
def f_X5_clause (F : Nat)  (h : PH) : Option (Unit × PH) := (if (h.1 31 3) = (112 : Int32) then (bnd (f_X5_word F 0 h) fun v17 h17 => (omat (h17.2.2 31 5) none fun z18 => if isBench z18 = true then (bnd (f_X5_number F  h17) fun v19 h19 => (lth (wI h19 z18 0 (if (1 : Int32) < v19 then v19 else (1 : Int32))) fun h20 => (some ((), h20)))) else none)) else (if (h.1 31 3) = (110 : Int32) then (if (1 : Int32) = 0 then (fL_X5_clause_58 F (1 : Int32) 2 h) else (fL_X5_clause_58 F (1 : Int32) 1 h)) else (if (0 : Int32) = 0 then (fL_X5_clause_58 F (0 : Int32) 2 h) else (fL_X5_clause_58 F (0 : Int32) 1 h))))
def fL_X5_readInto_32 (F : Nat) : Nat → Int32 → PH → Option (Int32 × PH)
  | 0, _, _ => none
  | n + 1, x2, h => (if (10 : Int32) ≤ x2 then (if (h.1 31 4) = 0 then (if (h.1 31 3) = (-1 : Int32) then (some ((1 : Int32), h)) else (some ((0 : Int32), h))) else (some ((0 : Int32), h))) else (if (h.1 31 4) = 0 then (if (h.1 31 3) = (59 : Int32) then (bnd (f_X5_step F  h) fun v17 h17 => (bnd (f_X5_clause F  h17) fun v18 h18 => (fL_X5_readInto_32 F n (x2 + (1 : Int32)) h18))) else (if (h.1 31 4) = 0 then (if (h.1 31 3) = (-1 : Int32) then (some ((1 : Int32), h)) else (some ((0 : Int32), h))) else (some ((0 : Int32), h)))) else (if (h.1 31 4) = 0 then (if (h.1 31 3) = (-1 : Int32) then (some ((1 : Int32), h)) else (some ((0 : Int32), h))) else (some ((0 : Int32), h)))))
def f_X5_readInto (F : Nat) (a1 : Nat) (h : PH) : Option (Int32 × PH) := (if isBench a1 = true then (lth (wR h 31 5 (some a1)) fun h1 => (omat (h1.2.2 31 5) none fun z2 => if isBench z2 = true then (bnd (f_X2_clear F z2 h1) fun v3 h3 => (lth (wI h3 31 4 (0 : Int32)) fun h4 => (lth (wI h4 31 2 (-1 : Int32)) fun h5 => (bnd (f_X5_step F  h5) fun v6 h6 => (bnd (f_X5_clause F  h6) fun v7 h7 => (fL_X5_readInto_32 F F (1 : Int32) h7)))))) else none)) else none)
def fL_X7_hold_7 (F : Nat) : Nat → Int32 → PH → Option (Unit × PH)
  | 0, _, _ => none
  | n + 1, x2, h => (if (h.1 1 0) ≤ x2 then (some ((), h)) else (bnd (f_X7_learn F x2 h) fun v3 h3 => (fL_X7_hold_7 F n (x2 + (1 : Int32)) h3)))
def f_X7_hold (F : Nat) (a1 : Nat) (h : PH) : Option (Unit × PH) := (if isBench a1 = true then (lth (wR h 1 10 (some a1)) fun h1 => (fL_X7_hold_7 F F (0 : Int32) h1)) else none)
def f_X9_bench (F : Nat)  (h : PH) : Option (Int32 × PH) := (if (h.1 0 5) < (6 : Int32) then (if inb (h.1 0 5) 6 = true then (bnd (f_X5_readInto F (66 + 4 * ix (h.1 0 5)) h) fun v3 h3 => (lth (wI h3 31 1 (0 : Int32)) fun h4 => (if v3 = 0 then (some (((-10 : Int32) - (h4.1 31 2)), h4)) else (bnd (f_X7_hold F (66 + 4 * ix (h.1 0 5)) h4) fun v6 h6 => (lth (wI h6 0 5 ((h6.1 0 5) + (1 : Int32))) fun h7 => (some (((h7.1 0 5) - (1 : Int32)), h7))))))) else none) else (some ((-4 : Int32), h)))
def fL_X7_howManyUp_4 (F : Nat) : Nat → Nat → Int32 → Int32 → PH → Option (Int32 × PH)
  | 0, _, _, _, _ => none
  | n + 1, x1, x2, x3, h => (if (h.1 1 0) ≤ x3 then (some (x2, h)) else (bnd (f_X3_isUp F x1 x3 h) fun v2 h2 => (if v2 = 0 then (fL_X7_howManyUp_4 F n x1 x2 (x3 + (1 : Int32)) h2) else (fL_X7_howManyUp_4 F n x1 (x2 + (1 : Int32)) (x3 + (1 : Int32)) h2))))
def f_X7_howManyUp (F : Nat) (a1 : Nat) (h : PH) : Option (Int32 × PH) := (if isCourse a1 = true then (fL_X7_howManyUp_4 F F a1 (0 : Int32) (0 : Int32) h) else none)
def fL_X7_leftOfAll_4 (F : Nat) : Nat → Nat → Int32 → Int32 → PH → Option (Int32 × PH)
  | 0, _, _, _, _ => none
  | n + 1, x1, x2, x3, h => (if (h.1 1 0) ≤ x3 then (some (x2, h)) else (bnd (f_X7_leftOf F x1 x3 h) fun v2 h2 => (fL_X7_leftOfAll_4 F n x1 (x2 + v2) (x3 + (1 : Int32)) h2)))
def f_X7_leftOfAll (F : Nat) (a1 : Nat) (h : PH) : Option (Int32 × PH) := (if isCourse a1 = true then (fL_X7_leftOfAll_4 F F a1 (0 : Int32) (0 : Int32) h) else none)
def f_X9_told (F : Nat) (a1 : Int32) (h : PH) : Option (Int32 × PH) := (if a1 = (0 : Int32) then (some ((h.1 6 0), h)) else (if a1 = (1 : Int32) then (bnd (f_X7_pace F  h) fun v2 h2 => (some (v2, h2))) else (if a1 = (2 : Int32) then (bnd (f_X7_howManyUp F 6 h) fun v3 h3 => (some (v3, h3))) else (if a1 = (3 : Int32) then (bnd (f_X7_leftOfAll F 6 h) fun v4 h4 => (some (v4, h4))) else (some ((-1 : Int32), h))))))
def f_X9_tell (F : Nat) (a1 : Int32) (h : PH) : Option (Int32 × PH) := (bnd (f_X9_isClock F a1 h) fun v1 h1 => (if v1 = 0 then (some ((-1 : Int32), h1)) else (if (h1.1 6 0) < (9999 : Int32) then (bnd (f_X7_evening F 6 a1 h1) fun v4 h4 => (some (v4, h4))) else (some ((-3 : Int32), h1)))))
def fL_X9_pass_36 (F : Nat) : Nat → Int32 → Int32 → PH → Option (Int32 × PH)
  | 0, _, _, _ => none
  | n + 1, x1, x2, h => (if x1 ≤ x2 then (some ((h.1 6 0), h)) else (bnd (f_X7_night F 6 h) fun v5 h5 => (fL_X9_pass_36 F n x1 (x2 + (1 : Int32)) h5)))
def f_X9_pass (F : Nat) (a1 : Int32) (h : PH) : Option (Int32 × PH) := (bnd (f_X9_within F a1 (0 : Int32) (60 : Int32) h) fun v1 h1 => (if v1 = 0 then (some ((-2 : Int32), h1)) else (if ((h1.1 6 0) + a1) ≤ (9999 : Int32) then (fL_X9_pass_36 F F a1 (0 : Int32) h1) else (some ((-3 : Int32), h1)))))
def fL_X1_tellOften_2 (F : Nat) : Nat → Int32 → Int32 → Int32 → PH → Option (Unit × PH)
  | 0, _, _, _, _ => none
  | n + 1, x1, x2, x3, h => (if x2 ≤ x3 then (some ((), h)) else (bnd (f_X7_evening F 35 x1 h) fun v2 h2 => (fL_X1_tellOften_2 F n x1 x2 (x3 + (1 : Int32)) h2)))
def f_X1_tellOften (F : Nat) (a1 : Int32) (a2 : Int32) (h : PH) : Option (Unit × PH) := (fL_X1_tellOften_2 F F a1 a2 (0 : Int32) h)
def f_X1_behind (F : Nat) (a1 : Int32) (a2 : Int32) (a3 : Int32) (h : PH) : Option (Int32 × PH) := (bnd (f_X1_begin F  h) fun v1 h1 => (bnd (f_X1_tellOften F a1 a2 h1) fun v2 h2 => (if a3 = (0 : Int32) then (if inb a1 6 = true then (some ((h2.1 36 (ix a1)), h2)) else none) else (if a3 = (1 : Int32) then (if inb a1 6 = true then (if (h2.1 37 (ix a1)) = 0 then (some ((0 : Int32), h2)) else (some ((1 : Int32), h2))) else none) else (bnd (f_X7_leftOf F 35 a1 h2) fun v5 h5 => (some (v5, h5)))))))
def f_X9_on (F : Nat) (a1 : Int32) (a2 : Int32) (a3 : Int32) (h : PH) : Option (Int32 × PH) := (bnd (f_X9_isClock F a1 h) fun v1 h1 => (if v1 = 0 then (some ((-1 : Int32), h1)) else (bnd (f_X9_within F a3 (0 : Int32) (2 : Int32) h1) fun v3 h3 => (if v3 = 0 then (some ((-1 : Int32), h3)) else (bnd (f_X9_within F a2 (0 : Int32) (60 : Int32) h3) fun v5 h5 => (if v5 = 0 then (some ((-2 : Int32), h5)) else (bnd (f_X1_behind F a1 a2 a3 h5) fun v7 h7 => (some (v7, h7)))))))))
def f_X4_keep (F : Nat) (a1 : Int32) (h : PH) : Option (Unit × PH) := (lth (wI h 38 4 a1) fun h1 => (if decide (0 ≤ (0 : Int32).toInt) && (decide (0 ≤ (0 : Int32).toInt) && (decide (0 ≤ (6 : Int32).toInt) && (decide ((0 : Int32).toInt + (6 : Int32).toInt ≤ (6 : Nat)) && decide ((0 : Int32).toInt + (6 : Int32).toInt ≤ (6 : Nat))))) then (lth (rowI h1 41 (va_cpy (h1.1 40) (h1.1 41) (ix (0 : Int32)) (ix (0 : Int32)) (ix (6 : Int32)))) fun h2 => (some ((), h2))) else none))
def fL_X4_turn_2 (F : Nat) : Nat → Nat → Int32 → Int32 → PH → Option (Int32 × PH)
  | 0, _, _, _, _ => none
  | n + 1, x1, x2, x3, h => (if (20 : Int32) ≤ x3 then (some (x3, h)) else (bnd (f_X3_isUp F x1 x2 h) fun v2 h2 => (if v2 = 0 then (if inb x2 6 = true then (if (h2.1 (x1 + 2) (ix x2)) = 0 then (bnd (f_X7_evening F x1 x2 h2) fun v5 h5 => (fL_X4_turn_2 F n x1 x2 (x3 + (1 : Int32)) h5)) else (some (x3, h2))) else none) else (some (x3, h2)))))
def f_X4_turn (F : Nat) (a1 : Nat) (a2 : Int32) (h : PH) : Option (Int32 × PH) := (if isCourse a1 = true then (fL_X4_turn_2 F F a1 a2 (0 : Int32) h) else none)
def fL_X4_tryOrders_38 (F : Nat) (G : Int32 → Int32 → Int32 → PH → Option (Unit × PH)) : Nat → Int32 → Int32 → Int32 → Int32 → PH → Option (Unit × PH)
  | 0, _, _, _, _, _ => none
  | n + 1, x1, x2, x3, x4, h => (if (h.1 1 0) ≤ x4 then (some ((), h)) else (if ((x2 >>> (x4 &&& 31)) &&& (1 : Int32)) = 0 then (if inb x1 6 = true then (lth (wI h 40 (ix x1) x4) fun h5 => (if inb (x1 + (1 : Int32)) 7 = true then (if inb x1 7 = true then (bnd (f_X3_copyFrom F (42 + 3 * ix (x1 + (1 : Int32))) (42 + 3 * ix x1) h5) fun v8 h8 => (if inb (x1 + (1 : Int32)) 7 = true then (bnd (f_X4_turn F (42 + 3 * ix (x1 + (1 : Int32))) x4 h8) fun v10 h10 => (bnd (G (x1 + (1 : Int32)) (x2 ||| ((1 : Int32) <<< (x4 &&& 31))) (x3 + v10) h10) fun v11 h11 => (fL_X4_tryOrders_38 F G n x1 x2 x3 (x4 + (1 : Int32)) h11))) else none)) else none) else none)) else none) else (fL_X4_tryOrders_38 F G n x1 x2 x3 (x4 + (1 : Int32)) h)))
def b_X4_tryOrders (F : Nat) (G : Int32 → Int32 → Int32 → PH → Option (Unit × PH)) (a1 : Int32) (a2 : Int32) (a3 : Int32) (h : PH) : Option (Unit × PH) := (if (h.1 38 4) = (-5 : Int32) then (if a1 < (h.1 1 0) then (fL_X4_tryOrders_38 F G F a1 a2 a3 (0 : Int32) h) else (bnd (f_X4_keep F a3 h) fun v12 h12 => (some ((), h12)))) else (if a3 < (h.1 38 4) then (if a1 < (h.1 1 0) then (fL_X4_tryOrders_38 F G F a1 a2 a3 (0 : Int32) h) else (bnd (f_X4_keep F a3 h) fun v15 h15 => (some ((), h15)))) else (some ((), h))))
def f_X4_tryOrders (F : Nat) : Nat → Int32 → Int32 → Int32 → PH → Option (Unit × PH)
  | 0 => fun _ _ _ _ => none
  | d + 1 => b_X4_tryOrders F (f_X4_tryOrders F d)
def f_X4_findOrder (F : Nat)  (h : PH) : Option (Unit × PH) := (lth (wI h 38 4 (-5 : Int32)) fun h1 => (if inb (0 : Int32) 7 = true then (bnd (f_X3_copyFrom F (42 + 3 * ix (0 : Int32)) 6 h1) fun v3 h3 => (bnd (f_X4_tryOrders F 50 (0 : Int32) (0 : Int32) (0 : Int32) h3) fun v4 h4 => (some ((), h4)))) else none))
def f_X9_soonest (F : Nat) (a1 : Int32) (h : PH) : Option (Int32 × PH) := (bnd (f_X9_within F a1 (-1 : Int32) (5 : Int32) h) fun v1 h1 => (if v1 = 0 then (some ((-1 : Int32), h1)) else (if a1 < (h1.1 1 0) then (bnd (f_X4_findOrder F  h1) fun v4 h4 => (if 0 ≤ a1 then (if inb a1 6 = true then (some ((h4.1 41 (ix a1)), h4)) else none) else (some ((h4.1 38 4), h4)))) else (some ((-5 : Int32), h1)))))
def fL_X4_tryRows_11 (F : Nat) (G : Int32 → Int32 → PH → Option (Unit × PH)) (x1 : Int32) (h : PH) : Option (Unit × PH) := (if inb x1 7 = true then (bnd (f_X7_howManyUp F (42 + 3 * ix x1) h) fun v3 h3 => (if v3 ≤ (h3.1 38 4) then (some ((), h3)) else (bnd (f_X4_keep F v3 h3) fun v5 h5 => (some ((), h5))))) else none)
def fL_X4_tryRows_41 (F : Nat) (G : Int32 → Int32 → PH → Option (Unit × PH)) : Nat → Int32 → Int32 → Int32 → PH → Option (Unit × PH)
  | 0, _, _, _, _ => none
  | n + 1, x1, x2, x3, h => (if (h.1 1 0) ≤ x3 then (some ((), h)) else (if inb x1 6 = true then (lth (wI h 40 (ix x1) x3) fun h8 => (if inb (x1 + (1 : Int32)) 7 = true then (if inb x1 7 = true then (bnd (f_X3_copyFrom F (42 + 3 * ix (x1 + (1 : Int32))) (42 + 3 * ix x1) h8) fun v11 h11 => (if inb (x1 + (1 : Int32)) 7 = true then (bnd (f_X7_evening F (42 + 3 * ix (x1 + (1 : Int32))) x3 h11) fun v13 h13 => (bnd (G (x1 + (1 : Int32)) x2 h13) fun v14 h14 => (fL_X4_tryRows_41 F G n x1 x2 (x3 + (1 : Int32)) h14))) else none)) else none) else none)) else none))
def b_X4_tryRows (F : Nat) (G : Int32 → Int32 → PH → Option (Unit × PH)) (a1 : Int32) (a2 : Int32) (h : PH) : Option (Unit × PH) := (if a2 ≤ a1 then (fL_X4_tryRows_11 F G a1 h) else (if a1 < (6 : Int32) then (fL_X4_tryRows_41 F G F a1 a2 (0 : Int32) h) else (fL_X4_tryRows_11 F G a1 h)))
def f_X4_tryRows (F : Nat) : Nat → Int32 → Int32 → PH → Option (Unit × PH)
  | 0 => fun _ _ _ => none
  | d + 1 => b_X4_tryRows F (f_X4_tryRows F d)
def f_X4_findRow (F : Nat) (a1 : Int32) (h : PH) : Option (Unit × PH) := (lth (wI h 38 4 (-5 : Int32)) fun h1 => (if inb (0 : Int32) 7 = true then (bnd (f_X3_copyFrom F (42 + 3 * ix (0 : Int32)) 6 h1) fun v3 h3 => (bnd (f_X4_tryRows F 50 (0 : Int32) a1 h3) fun v4 h4 => (some ((), h4)))) else none))
def f_X9_most (F : Nat) (a1 : Int32) (a2 : Int32) (h : PH) : Option (Int32 × PH) := (bnd (f_X9_within F a2 (-1 : Int32) (4 : Int32) h) fun v1 h1 => (if v1 = 0 then (some ((-1 : Int32), h1)) else (bnd (f_X9_within F a1 (1 : Int32) (5 : Int32) h1) fun v3 h3 => (if v3 = 0 then (some ((-2 : Int32), h3)) else (if a1 ≤ a2 then (some ((-5 : Int32), h3)) else (if (h3.1 1 0) = 0 then (some ((-5 : Int32), h3)) else (bnd (f_X4_findRow F a1 h3) fun v7 h7 => (if 0 ≤ a2 then (if inb a2 6 = true then (some ((h7.1 41 (ix a2)), h7)) else none) else (some ((h7.1 38 4), h7))))))))))
def fL_X1_bestNext_8 (F : Nat) : Nat → Int32 → Int32 → Int32 → PH → Option (Int32 × PH)
  | 0, _, _, _, _ => none
  | n + 1, x1, x2, x3, h => (if (h.1 1 0) ≤ x3 then (some (x1, h)) else (bnd (f_X1_begin F  h) fun v2 h2 => (bnd (f_X7_evening F 35 x3 h2) fun v3 h3 => (bnd (f_X7_leftOfAll F 35 h3) fun v4 h4 => (if x2 ≤ v4 then (fL_X1_bestNext_8 F n x1 x2 (x3 + (1 : Int32)) h4) else (fL_X1_bestNext_8 F n x3 v4 (x3 + (1 : Int32)) h4))))))
def f_X1_bestNext (F : Nat)  (h : PH) : Option (Int32 × PH) := (fL_X1_bestNext_8 F F (-5 : Int32) (2147483647 : Int32) (0 : Int32) h)
def f_X9_next (F : Nat)  (h : PH) : Option (Int32 × PH) := (bnd (f_X1_bestNext F  h) fun v1 h1 => (some (v1, h1)))
def f_X6_empty (F : Nat) (t : Nat) (h : PH) : Option (Int32 × PH) := (if isRows t = true then (lth (wI h t 2 (0 : Int32)) fun h1 => (some ((0 : Int32), h1))) else none)
def f_X6_put (F : Nat) (t : Nat) (a1 : Int32) (a2 : Int32) (a3 : Int32) (h : PH) : Option (Int32 × PH) := (if isRows t = true then (if (h.1 t 2) < (h.1 t 0) then (if inb ((h.1 t 2) * (3 : Int32)) (lnA (t + 1)) = true then (lth (wI h (t + 1) (ix ((h.1 t 2) * (3 : Int32))) a1) fun h2 => (if inb (((h2.1 t 2) * (3 : Int32)) + (1 : Int32)) (lnA (t + 1)) = true then (lth (wI h2 (t + 1) (ix (((h2.1 t 2) * (3 : Int32)) + (1 : Int32))) a2) fun h3 => (if inb (((h3.1 t 2) * (3 : Int32)) + (2 : Int32)) (lnA (t + 1)) = true then (lth (wI h3 (t + 1) (ix (((h3.1 t 2) * (3 : Int32)) + (2 : Int32))) a3) fun h4 => (lth (wI h4 t 2 ((h4.1 t 2) + (1 : Int32))) fun h5 => (some ((h5.1 t 2), h5)))) else none)) else none)) else none) else (some ((-4 : Int32), h))) else none)
def f_X9_see (F : Nat) (a1 : Int32) (a2 : Int32) (a3 : Int32) (h : PH) : Option (Int32 × PH) := (if a1 = (-1 : Int32) then (bnd (f_X6_empty F 9 h) fun v9 h9 => (some (v9, h9))) else (bnd (f_X9_isClock F a1 h) fun v2 h2 => (if v2 = 0 then (some ((-1 : Int32), h2)) else (bnd (f_X9_within F a2 (0 : Int32) (999 : Int32) h2) fun v4 h4 => (if v4 = 0 then (some ((-2 : Int32), h4)) else (bnd (f_X9_within F a3 (0 : Int32) (20 : Int32) h4) fun v6 h6 => (if v6 = 0 then (some ((-2 : Int32), h6)) else (bnd (f_X6_put F 9 a1 a2 a3 h6) fun v8 h8 => (some (v8, h8))))))))))
def f_X6_cell (F : Nat) (t : Nat) (a1 : Int32) (a2 : Int32) (h : PH) : Option (Int32 × PH) := (if isRows t = true then (if inb ((a1 * (3 : Int32)) + a2) (lnA (t + 1)) = true then (some ((h.1 (t + 1) (ix ((a1 * (3 : Int32)) + a2))), h)) else none) else none)
def f_X1_isSo (F : Nat) (a1 : Int32) (a2 : Int32) (a3 : Int32) (h : PH) : Option (Int32 × PH) := (bnd (f_X1_begin F  h) fun v1 h1 => (if inb a2 6 = true then (lth (wI h1 36 (ix a2) a3) fun h2 => (bnd (f_X6_cell F 9 a1 (2 : Int32) h2) fun v3 h3 => (bnd (f_X1_tellOften F a2 v3 h3) fun v4 h4 => (if inb a2 6 = true then (bnd (f_X6_cell F 9 a1 (1 : Int32) h4) fun v5 h5 => (if ((h4.1 36 (ix a2)) - a3) = v5 then (some ((1 : Int32), h5)) else (some ((0 : Int32), h5)))) else none)))) else none))
def fL_X1_weigh_3 (F : Nat) : Nat → Int32 → Int32 → Int32 → Int32 → PH → Option (Unit × PH)
  | 0, _, _, _, _, _ => none
  | n + 1, x1, x2, x3, x4, h => (if (h.1 9 2) ≤ x4 then (if (h.1 34 2) = 0 then (lth (wI h 34 3 x3) fun h4 => (lth (wI h4 34 2 ((h4.1 34 2) + (1 : Int32))) fun h5 => (some ((), h5)))) else (lth (wI h 34 2 ((h.1 34 2) + (1 : Int32))) fun h3 => (some ((), h3)))) else (bnd (f_X6_cell F 9 x4 (0 : Int32) h) fun v6 h6 => (if v6 = x1 then (bnd (f_X1_isSo F x4 x1 x2 h6) fun v8 h8 => (if v8 = 0 then (some ((), h8)) else (fL_X1_weigh_3 F n x1 x2 x3 (x4 + (1 : Int32)) h8))) else (fL_X1_weigh_3 F n x1 x2 x3 (x4 + (1 : Int32)) h6))))
def f_X1_weigh (F : Nat) (a1 : Int32) (a2 : Int32) (a3 : Int32) (h : PH) : Option (Unit × PH) := (fL_X1_weigh_3 F F a1 a2 a3 (0 : Int32) h)
def f_X1_weighNothing (F : Nat)  (h : PH) : Option (Unit × PH) := (lth (wI h 34 2 (0 : Int32)) fun h1 => (lth (wI h1 34 3 (-5 : Int32)) fun h2 => (some ((), h2))))
def fL_X1_weighDays_17 (F : Nat) : Nat → Int32 → Int32 → Int32 → PH → Option (Unit × PH)
  | 0, _, _, _, _ => none
  | n + 1, x1, x2, x3, h => (if (99 : Int32) < x3 then (some ((), h)) else (if x2 < x3 then (some ((), h)) else (bnd (f_X1_weigh F x1 (x2 - x3) x3 h) fun v4 h4 => (fL_X1_weighDays_17 F n x1 x2 (x3 + (1 : Int32)) h4))))
def f_X1_weighDays (F : Nat) (a1 : Int32) (h : PH) : Option (Unit × PH) := (bnd (f_X1_weighNothing F  h) fun v1 h1 => (fL_X1_weighDays_17 F F a1 (h1.1 6 0) (0 : Int32) h1))
def f_X9_since (F : Nat) (a1 : Int32) (a2 : Int32) (h : PH) : Option (Int32 × PH) := (bnd (f_X9_isClock F a1 h) fun v1 h1 => (if v1 = 0 then (some ((-1 : Int32), h1)) else (bnd (f_X9_within F a2 (0 : Int32) (1 : Int32) h1) fun v3 h3 => (if v3 = 0 then (some ((-1 : Int32), h3)) else (bnd (f_X1_weighDays F a1 h3) fun v5 h5 => (if a2 = 0 then (some ((h5.1 34 2), h5)) else (some ((h5.1 34 3), h5))))))))
def fL_X1_weighValues_16 (F : Nat) : Nat → Int32 → Int32 → Int32 → PH → Option (Unit × PH)
  | 0, _, _, _, _ => none
  | n + 1, x1, x2, x3, h => (if (9 : Int32) < x3 then (if inb x1 6 = true then (lth (wI h 3 (ix x1) x2) fun h3 => (bnd (f_X7_learn F x1 h3) fun v4 h4 => (some ((), h4)))) else none) else (if inb x1 6 = true then (lth (wI h 3 (ix x1) x3) fun h5 => (bnd (f_X7_learn F x1 h5) fun v6 h6 => (if inb x1 6 = true then (bnd (f_X1_weigh F x1 (h6.1 7 (ix x1)) x3 h6) fun v7 h7 => (fL_X1_weighValues_16 F n x1 x2 (x3 + (1 : Int32)) h7)) else none))) else none))
def f_X1_weighValues (F : Nat) (a1 : Int32) (h : PH) : Option (Unit × PH) := (bnd (f_X1_weighNothing F  h) fun v1 h1 => (if inb a1 6 = true then (fL_X1_weighValues_16 F F a1 (h1.1 3 (ix a1)) (0 : Int32) h1) else none))
def f_X9_can (F : Nat) (a1 : Int32) (a2 : Int32) (h : PH) : Option (Int32 × PH) := (bnd (f_X9_isClock F a1 h) fun v1 h1 => (if v1 = 0 then (some ((-1 : Int32), h1)) else (bnd (f_X9_within F a2 (0 : Int32) (1 : Int32) h1) fun v3 h3 => (if v3 = 0 then (some ((-1 : Int32), h3)) else (bnd (f_X1_weighValues F a1 h3) fun v5 h5 => (if a2 = 0 then (some ((h5.1 34 2), h5)) else (some ((h5.1 34 3), h5))))))))
def fL_X1_howManyUpBehind_4 (F : Nat) : Nat → Int32 → Int32 → Int32 → PH → Option (Int32 × PH)
  | 0, _, _, _, _ => none
  | n + 1, x1, x2, x3, h => (if (h.1 1 0) ≤ x3 then (some (x2, h)) else (bnd (f_X1_begin F  h) fun v2 h2 => (bnd (f_X1_tellOften F x3 x1 h2) fun v3 h3 => (bnd (f_X3_isUp F 35 x3 h3) fun v4 h4 => (if v4 = 0 then (fL_X1_howManyUpBehind_4 F n x1 x2 (x3 + (1 : Int32)) h4) else (fL_X1_howManyUpBehind_4 F n x1 (x2 + (1 : Int32)) (x3 + (1 : Int32)) h4))))))
def f_X1_howManyUpBehind (F : Nat) (a1 : Int32) (h : PH) : Option (Int32 × PH) := (fL_X1_howManyUpBehind_4 F F a1 (0 : Int32) (0 : Int32) h)
def fL_X9_commonDivisor_7 (F : Nat) : Nat → Int32 → Int32 → Int32 → PH → Option (Int32 × PH)
  | 0, _, _, _, _ => none
  | n + 1, x2, x3, x4, h => (if (1000 : Int32) ≤ x4 then (some (x2, h)) else (if x3 = 0 then (some (x2, h)) else (if x3 = 0 then none else (fL_X9_commonDivisor_7 F n x3 (jrem x2 x3) (x4 + (1 : Int32)) h))))
def f_X9_commonDivisor (F : Nat) (a0 : Int32) (a1 : Int32) (h : PH) : Option (Int32 × PH) := (fL_X9_commonDivisor_7 F F a0 a1 (0 : Int32) h)
def f_X9_lowest (F : Nat) (a0 : Int32) (a1 : Int32) (a2 : Int32) (h : PH) : Option (Int64 × PH) := (bnd (f_X9_commonDivisor F a0 a1 h) fun v1 h1 => (if a1 = 0 then (some ((-9223372036854775808 : Int64), h1)) else (if v1 = 0 then (some ((-9223372036854775808 : Int64), h1)) else (if a2 = (0 : Int32) then (if v1 = 0 then none else (some (((a0 / v1).toInt64), h1))) else (if a2 = (1 : Int32) then (if v1 = 0 then none else (some (((a1 / v1).toInt64), h1))) else (some ((-9223372036854775808 : Int64), h1)))))))
def f_X9_odds (F : Nat) (a1 : Int32) (a2 : Int32) (h : PH) : Option (Int64 × PH) := (bnd (f_X9_within F a1 (0 : Int32) (60 : Int32) h) fun v1 h1 => (if v1 = 0 then (some ((-9223372036854775808 : Int64), h1)) else (bnd (f_X1_howManyUpBehind F a1 h1) fun v3 h3 => (bnd (f_X9_lowest F v3 (h3.1 1 0) a2 h3) fun v4 h4 => (some (v4, h4))))))
def f_X9_mean (F : Nat) (a1 : Int32) (h : PH) : Option (Int64 × PH) := (bnd (f_X7_leftOfAll F 6 h) fun v1 h1 => (bnd (f_X9_lowest F v1 (h1.1 1 0) a1 h1) fun v2 h2 => (some (v2, h2))))
def f_X9_month (F : Nat) (a1 : Int32) (h : PH) : Option (Int32 × PH) := (if a1 = (-1 : Int32) then (bnd (f_X6_empty F 11 h) fun v7 h7 => (some (v7, h7))) else (bnd (f_X9_isClock F a1 h) fun v2 h2 => (if v2 = 0 then (if a1 = (6 : Int32) then (bnd (f_X6_put F 11 a1 (0 : Int32) (0 : Int32) h2) fun v6 h6 => (some (v6, h6))) else (some ((-1 : Int32), h2))) else (bnd (f_X6_put F 11 a1 (0 : Int32) (0 : Int32) h2) fun v4 h4 => (some (v4, h4))))))
def fL_X1_monthEnds_6 (F : Nat) : Nat → Int32 → Int32 → PH → Option (Int32 × PH)
  | 0, _, _, _ => none
  | n + 1, x1, x2, h => (if (h.1 11 2) ≤ x2 then (if x1 = 0 then (bnd (f_X7_howManyUp F 35 h) fun v5 h5 => (some (v5, h5))) else (bnd (f_X7_leftOfAll F 35 h) fun v4 h4 => (some (v4, h4)))) else (bnd (f_X6_cell F 11 x2 (0 : Int32) h) fun v6 h6 => (if v6 = (6 : Int32) then (bnd (f_X7_night F 35 h6) fun v9 h9 => (fL_X1_monthEnds_6 F n x1 (x2 + (1 : Int32)) h9)) else (bnd (f_X7_evening F 35 v6 h6) fun v8 h8 => (fL_X1_monthEnds_6 F n x1 (x2 + (1 : Int32)) h8)))))
def f_X1_monthEnds (F : Nat) (a1 : Int32) (h : PH) : Option (Int32 × PH) := (bnd (f_X1_begin F  h) fun v1 h1 => (fL_X1_monthEnds_6 F F a1 (0 : Int32) h1))
def f_X9_ends (F : Nat) (a1 : Int32) (h : PH) : Option (Int32 × PH) := (bnd (f_X9_within F a1 (0 : Int32) (1 : Int32) h) fun v1 h1 => (if v1 = 0 then (some ((-1 : Int32), h1)) else (bnd (f_X1_monthEnds F a1 h1) fun v3 h3 => (some (v3, h3)))))
def f_X9_book (F : Nat) (a1 : Int32) (a2 : Int32) (h : PH) : Option (Int32 × PH) := (if a1 = (-1 : Int32) then (bnd (f_X6_empty F 13 h) fun v7 h7 => (some (v7, h7))) else (bnd (f_X9_isClock F a1 h) fun v2 h2 => (if v2 = 0 then (some ((-1 : Int32), h2)) else (bnd (f_X9_within F a2 (0 : Int32) (9999 : Int32) h2) fun v4 h4 => (if v4 = 0 then (some ((-2 : Int32), h4)) else (bnd (f_X6_put F 13 a1 a2 (0 : Int32) h4) fun v6 h6 => (some (v6, h6))))))))
def fL_X9_looked_2 (F : Nat) : Nat → Int32 → PH → Option (Int32 × PH)
  | 0, _, _ => none
  | n + 1, x1, h => (if (h.1 13 2) ≤ x1 then (some ((-5 : Int32), h)) else (bnd (f_X6_cell F 13 x1 (0 : Int32) h) fun v2 h2 => (if inb v2 6 = true then (bnd (f_X6_cell F 13 x1 (1 : Int32) h2) fun v3 h3 => (if (h2.1 7 (ix v2)) = v3 then (fL_X9_looked_2 F n (x1 + (1 : Int32)) h3) else (some (x1, h3)))) else none)))
def f_X9_looked (F : Nat)  (h : PH) : Option (Int32 × PH) := (fL_X9_looked_2 F F (0 : Int32) h)
def f_X8_has (F : Nat) (t : Nat) (a1 : Int32) (h : PH) : Option (Int32 × PH) := (if isTape t = true then (if a1 < 0 then (some ((0 : Int32), h)) else (if (h.1 t 1) ≤ a1 then (some ((0 : Int32), h)) else (some ((1 : Int32), h)))) else none)
def f_X9_isTape (F : Nat) (a0 : Int32) (h : PH) : Option (Int32 × PH) := (if a0 < 0 then (some ((0 : Int32), h)) else (if (6 : Int32) ≤ a0 then (some ((0 : Int32), h)) else (some ((1 : Int32), h))))
def fL_X9_judge_41 (F : Nat) : Nat → Nat → Int32 → Int32 → PH → Option (Int32 × PH)
  | 0, _, _, _, _ => none
  | n + 1, x3, x4, x5, h => (if (h.1 1 0) ≤ x5 then (some ((-5 : Int32), h)) else (bnd (f_X8_has F x3 x4 h) fun v6 h6 => (if v6 = 0 then (some (((100 : Int32) + x5), h6)) else (if inb x4 60 = true then (if inb x5 6 = true then (if (lg_cmp (h6.2.1 (x3 + 1) (ix x4)) ((h6.1 7 (ix x5)).toInt64)) = 0 then (fL_X9_judge_41 F n x3 (x4 + (1 : Int32)) (x5 + (1 : Int32)) h6) else (some (x5, h6))) else none) else none))))
def f_X9_judge (F : Nat) (a1 : Int32) (a2 : Int32) (h : PH) : Option (Int32 × PH) := (bnd (f_X9_isTape F a1 h) fun v1 h1 => (if v1 = 0 then (some ((-1 : Int32), h1)) else (if inb a1 6 = true then (if (h1.1 (90 + 2 * ix a1) 0) = (1 : Int32) then (fL_X9_judge_41 F F (90 + 2 * ix a1) a2 (0 : Int32) h1) else (if (h1.1 (90 + 2 * ix a1) 0) = (-1 : Int32) then (fL_X9_judge_41 F F (90 + 2 * ix a1) a2 (0 : Int32) h1) else (some ((-12 : Int32), h1)))) else none)))
def f_X6_copyFrom (F : Nat) (t : Nat) (a1 : Nat) (h : PH) : Option (Unit × PH) := (if isRows t = true then (if isRows a1 = true then (if decide (0 ≤ (0 : Int32).toInt) && (decide (0 ≤ (0 : Int32).toInt) && (decide (0 ≤ (Int32.ofNat (lnA (t + 1))).toInt) && (decide ((0 : Int32).toInt + (Int32.ofNat (lnA (t + 1))).toInt ≤ ((lnA (a1 + 1)) : Nat)) && decide ((0 : Int32).toInt + (Int32.ofNat (lnA (t + 1))).toInt ≤ ((lnA (t + 1)) : Nat))))) then (lth (rowI h (t + 1) (va_cpy (h.1 (a1 + 1)) (h.1 (t + 1)) (ix (0 : Int32)) (ix (0 : Int32)) (ix (Int32.ofNat (lnA (t + 1)))))) fun h1 => (lth (wI h1 t 2 (h1.1 a1 2)) fun h2 => (some ((), h2)))) else none) else none) else none)
def f_X7_copyFrom (F : Nat) (t : Nat) (a1 : Nat) (h : PH) : Option (Unit × PH) := (if isShop t = true then (if isShop a1 = true then (lth (wI h t 0 (h.1 a1 0)) fun h1 => (if decide (0 ≤ (0 : Int32).toInt) && (decide (0 ≤ (0 : Int32).toInt) && (decide (0 ≤ (6 : Int32).toInt) && (decide ((0 : Int32).toInt + (6 : Int32).toInt ≤ (6 : Nat)) && decide ((0 : Int32).toInt + (6 : Int32).toInt ≤ (6 : Nat))))) then (lth (rowI h1 (t + 1) (va_cpy (h1.1 (a1 + 1)) (h1.1 (t + 1)) (ix (0 : Int32)) (ix (0 : Int32)) (ix (6 : Int32)))) fun h2 => (if decide (0 ≤ (0 : Int32).toInt) && (decide (0 ≤ (0 : Int32).toInt) && (decide (0 ≤ (6 : Int32).toInt) && (decide ((0 : Int32).toInt + (6 : Int32).toInt ≤ (6 : Nat)) && decide ((0 : Int32).toInt + (6 : Int32).toInt ≤ (6 : Nat))))) then (lth (rowI h2 (t + 2) (va_cpy (h2.1 (a1 + 2)) (h2.1 (t + 2)) (ix (0 : Int32)) (ix (0 : Int32)) (ix (6 : Int32)))) fun h3 => (if decide (0 ≤ (0 : Int32).toInt) && (decide (0 ≤ (0 : Int32).toInt) && (decide (0 ≤ (24 : Int32).toInt) && (decide ((0 : Int32).toInt + (24 : Int32).toInt ≤ (24 : Nat)) && decide ((0 : Int32).toInt + (24 : Int32).toInt ≤ (24 : Nat))))) then (lth (rowI h3 (t + 3) (va_cpy (h3.1 (a1 + 3)) (h3.1 (t + 3)) (ix (0 : Int32)) (ix (0 : Int32)) (ix (24 : Int32)))) fun h4 => (if decide (0 ≤ (0 : Int32).toInt) && (decide (0 ≤ (0 : Int32).toInt) && (decide (0 ≤ (606 : Int32).toInt) && (decide ((0 : Int32).toInt + (606 : Int32).toInt ≤ (606 : Nat)) && decide ((0 : Int32).toInt + (606 : Int32).toInt ≤ (606 : Nat))))) then (lth (rowI h4 (t + 4) (va_cpy (h4.1 (a1 + 4)) (h4.1 (t + 4)) (ix (0 : Int32)) (ix (0 : Int32)) (ix (606 : Int32)))) fun h5 => (bnd (f_X3_copyFrom F (t + 5) (a1 + 5) h5) fun v6 h6 => (bnd (f_X6_copyFrom F (t + 8) (a1 + 8) h6) fun v7 h7 => (bnd (f_X6_copyFrom F (t + 10) (a1 + 10) h7) fun v8 h8 => (bnd (f_X6_copyFrom F (t + 12) (a1 + 12) h8) fun v9 h9 => (lth (wR h9 t 10 (h9.2.2 a1 10)) fun h10 => (some ((), h10)))))))) else none)) else none)) else none)) else none)) else none) else none)
def f_X9_image (F : Nat)  (h : PH) : Option (Int32 × PH) := (bnd (f_X7_copyFrom F 16 1 h) fun v1 h1 => (lth (wI h1 0 2 (1 : Int32)) fun h2 => (some ((h2.1 1 0), h2))))
def f_X9_undo (F : Nat)  (h : PH) : Option (Int32 × PH) := (if (h.1 0 2) = 0 then (some ((-3 : Int32), h)) else (bnd (f_X7_copyFrom F 1 16 h) fun v2 h2 => (some ((h2.1 1 0), h2))))
def fL_X0_bodyFrom_4 (F : Nat) : Nat → Int32 → Int32 → Int32 → PH → Option (Int32 × PH)
  | 0, _, _, _, _ => none
  | n + 1, x1, x2, x3, h => (if (7 : Int32) ≤ x3 then (some ((0 : Int32), h)) else (if x2 < 0 then (some ((0 : Int32), h)) else (if inb ((x2 * (3 : Int32)) + x1) 21 = true then (if (bodiesF (ix ((x2 * (3 : Int32)) + x1))) = 0 then (if inb x2 7 = true then (fL_X0_bodyFrom_4 F n x1 (aboveF (ix x2)) (x3 + (1 : Int32)) h) else none) else (some ((bodiesF (ix ((x2 * (3 : Int32)) + x1))), h))) else none)))
def f_X0_bodyFrom (F : Nat) (a0 : Int32) (a1 : Int32) (h : PH) : Option (Int32 × PH) := (fL_X0_bodyFrom_4 F F a1 a0 (0 : Int32) h)
def f_X0_note (F : Nat) (a1 : Int32) (h : PH) : Option (Unit × PH) := (if (20 : Int32) ≤ (h.1 63 1) then (lth (wI h 63 1 ((h.1 63 1) + (1 : Int32))) fun h2 => (some ((), h2))) else (if inb (h.1 63 1) 20 = true then (lth (wI h 64 (ix (h.1 63 1)) a1) fun h3 => (lth (wI h3 63 1 ((h3.1 63 1) + (1 : Int32))) fun h4 => (some ((), h4)))) else none))
def b_X0_run (F : Nat) (G : Int32 → Int32 → Int32 → Int32 → PH → Option (Int32 × PH)) (a1 : Int32) (a2 : Int32) (a3 : Int32) (a4 : Int32) (h : PH) : Option (Int32 × PH) := (bnd (f_X0_bodyFrom F a1 a2 h) fun v1 h1 => (if v1 = 0 then (some ((0 : Int32), h1)) else (if a4 < (40 : Int32) then (bnd (f_X0_note F v1 h1) fun v4 h4 => (if (10 : Int32) = 0 then none else (if inb ((v1 / (10 : Int32)) - (1 : Int32)) 7 = true then (if v1 = (10 : Int32) then (some ((a3 + (h4.1 63 2)), h4)) else (if v1 = (11 : Int32) then (bnd (G (h4.1 63 3) (0 : Int32) a3 (a4 + (1 : Int32)) h4) fun v6 h6 => (some ((v6 - (h6.1 63 4)), h6))) else (if v1 = (12 : Int32) then (bnd (G (h4.1 63 3) (1 : Int32) a3 (a4 + (1 : Int32)) h4) fun v7 h7 => (some ((v7 * (2 : Int32)), h7))) else (if v1 = (20 : Int32) then (bnd (G (aboveF (ix ((v1 / (10 : Int32)) - (1 : Int32)))) (1 : Int32) a3 (a4 + (1 : Int32)) h4) fun v8 h8 => (some ((v8 ^^^ (6 : Int32)), h8))) else (if v1 = (30 : Int32) then (bnd (G (aboveF (ix ((v1 / (10 : Int32)) - (1 : Int32)))) (0 : Int32) (a3 * (3 : Int32)) (a4 + (1 : Int32)) h4) fun v9 h9 => (some (v9, h9))) else (if v1 = (40 : Int32) then (bnd (G (aboveF (ix ((v1 / (10 : Int32)) - (1 : Int32)))) (2 : Int32) a3 (a4 + (1 : Int32)) h4) fun v10 h10 => (bnd (G (h10.1 63 3) (1 : Int32) (1 : Int32) (a4 + (1 : Int32)) h10) fun v11 h11 => (some ((v10 + v11), h11)))) else (if v1 = (50 : Int32) then (bnd (G (aboveF (ix ((v1 / (10 : Int32)) - (1 : Int32)))) (0 : Int32) a3 (a4 + (1 : Int32)) h4) fun v12 h12 => (some ((-v12), h12))) else (if v1 = (51 : Int32) then (bnd (G (aboveF (ix ((v1 / (10 : Int32)) - (1 : Int32)))) (1 : Int32) (a3 + (1 : Int32)) (a4 + (1 : Int32)) h4) fun v13 h13 => (some (v13, h13))) else (if v1 = (60 : Int32) then (bnd (G (aboveF (ix ((v1 / (10 : Int32)) - (1 : Int32)))) (2 : Int32) (a3 - (h4.1 63 2)) (a4 + (1 : Int32)) h4) fun v14 h14 => (some (v14, h14))) else (if v1 = (70 : Int32) then (bnd (G (aboveF (ix ((v1 / (10 : Int32)) - (1 : Int32)))) (1 : Int32) a3 (a4 + (1 : Int32)) h4) fun v15 h15 => (bnd (G (aboveF (ix ((v1 / (10 : Int32)) - (1 : Int32)))) (0 : Int32) (2 : Int32) (a4 + (1 : Int32)) h15) fun v16 h16 => (some ((v15 + v16), h16)))) else (if v1 = (71 : Int32) then (bnd (G (aboveF (ix ((v1 / (10 : Int32)) - (1 : Int32)))) (0 : Int32) a3 (a4 + (1 : Int32)) h4) fun v17 h17 => (some ((v17 ^^^ (h17.1 63 4)), h17))) else (some ((0 : Int32), h4))))))))))))) else none))) else (some ((0 : Int32), h1)))))
def f_X0_run (F : Nat) : Nat → Int32 → Int32 → Int32 → Int32 → PH → Option (Int32 × PH)
  | 0 => fun _ _ _ _ _ => none
  | d + 1 => b_X0_run F (f_X0_run F d)
def f_X0_start (F : Nat) (a1 : Int32) (a2 : Int32) (a3 : Int32) (a4 : Int32) (a5 : Int32) (h : PH) : Option (Int32 × PH) := (lth (wI h 63 2 a1) fun h1 => (lth (wI h1 63 3 a2) fun h2 => (lth (wI h2 63 4 a3) fun h3 => (bnd (f_X0_run F 50 a2 a4 a5 (0 : Int32) h3) fun v4 h4 => (some (v4, h4))))))
def f_X9_act (F : Nat) (a1 : Int32) (a2 : Int32) (a3 : Int32) (h : PH) : Option (Int32 × PH) := (lth (wI h 63 1 (0 : Int32)) fun h1 => (bnd (f_X9_isClock F a1 h1) fun v2 h2 => (if v2 = 0 then (some ((0 : Int32), h2)) else (bnd (f_X9_within F a2 (0 : Int32) (2 : Int32) h2) fun v4 h4 => (if v4 = 0 then (some ((0 : Int32), h4)) else (if inb a1 6 = true then (if inb a1 6 = true then (bnd (f_X0_start F a1 (h4.1 2 (ix a1)) (h4.1 3 (ix a1)) a2 a3 h4) fun v6 h6 => (some (v6, h6))) else none) else none))))))
def f_X9_trace (F : Nat) (a1 : Int32) (h : PH) : Option (Int32 × PH) := (bnd (f_X9_within F a1 (0 : Int32) ((if (20 : Int32) < (h.1 63 1) then (20 : Int32) else (h.1 63 1)) - (1 : Int32)) h) fun v1 h1 => (if v1 = 0 then (some ((-1 : Int32), h1)) else (if inb a1 20 = true then (some ((h1.1 64 (ix a1)), h1)) else none)))
def fL_X9_isUnder_4 (F : Nat) : Nat → Int32 → Int32 → Int32 → PH → Option (Int32 × PH)
  | 0, _, _, _, _ => none
  | n + 1, x1, x2, x3, h => (if (7 : Int32) ≤ x3 then (some ((0 : Int32), h)) else (if x2 < 0 then (some ((0 : Int32), h)) else (if x2 = x1 then (some ((1 : Int32), h)) else (if inb x2 7 = true then (fL_X9_isUnder_4 F n x1 (aboveF (ix x2)) (x3 + (1 : Int32)) h) else none))))
def f_X9_isUnder (F : Nat) (a0 : Int32) (a1 : Int32) (h : PH) : Option (Int32 × PH) := (fL_X9_isUnder_4 F F a1 a0 (0 : Int32) h)
def f_X9_taken (F : Nat) (a1 : Int32) (a2 : Int32) (h : PH) : Option (Int32 × PH) := (bnd (f_X9_within F a2 (0 : Int32) (6 : Int32) h) fun v1 h1 => (if v1 = 0 then (some ((-2 : Int32), h1)) else (bnd (f_X9_isClock F a1 h1) fun v3 h3 => (if v3 = 0 then (some ((-11 : Int32), h3)) else (if inb a1 6 = true then (bnd (f_X9_isUnder F (h3.1 2 (ix a1)) a2 h3) fun v5 h5 => (if v5 = 0 then (some ((-12 : Int32), h5)) else (some ((h3.1 2 (ix a1)), h5)))) else none)))))
def f_X9_count (F : Nat) (a1 : Int32) (h : PH) : Option (Int32 × PH) := (if a1 = (0 : Int32) then (some ((h.1 1 0), h)) else (if a1 = (1 : Int32) then (some ((h.1 0 5), h)) else (if a1 = (2 : Int32) then (some ((h.1 9 2), h)) else (if a1 = (3 : Int32) then (some ((h.1 11 2), h)) else (if a1 = (4 : Int32) then (some ((h.1 13 2), h)) else (if a1 = (5 : Int32) then (some ((h.1 31 1), h)) else (if a1 = (6 : Int32) then (some ((h.1 63 1), h)) else (some ((-2 : Int32), h)))))))))
def f_X8_become (F : Nat) (t : Nat) (a1 : Int32) (a2 : Int32) (h : PH) : Option (Unit × PH) := (if isTape t = true then (lth (wI h t 0 a1) fun h1 => (lth (wI h1 t 1 a2) fun h2 => (lth (rowL h2 (t + 1) (fun i => if i < 60 then (0 : Int64) else h2.2.1 (t + 1) i)) fun h3 => (some ((), h3))))) else none)
def f_X9_tape (F : Nat) (a1 : Int32) (a2 : Int32) (a3 : Int32) (h : PH) : Option (Int32 × PH) := (bnd (f_X9_isTape F a1 h) fun v1 h1 => (if v1 = 0 then (some ((-1 : Int32), h1)) else (if a2 = (-1 : Int32) then (if inb a1 6 = true then (bnd (f_X8_become F (90 + 2 * ix a1) a2 (0 : Int32) h1) fun v11 h11 => (some ((1 : Int32), h11))) else none) else (bnd (f_X9_within F a2 (0 : Int32) (4 : Int32) h1) fun v4 h4 => (if v4 = 0 then (some ((-2 : Int32), h4)) else (if a3 ≤ (60 : Int32) then (if 0 ≤ a3 then (if inb a1 6 = true then (bnd (f_X8_become F (90 + 2 * ix a1) a2 a3 h4) fun v9 h9 => (some ((1 : Int32), h9))) else none) else (some ((-14 : Int32), h4))) else (some ((-2 : Int32), h4))))))))
def f_X8_cut (F : Nat) (t : Nat) (a1 : Int64) (h : PH) : Option (Int64 × PH) := (if isTape t = true then (if (h.1 t 0) = (0 : Int32) then (some ((((a1.toInt32).toInt8.toInt32).toInt64), h)) else (if (h.1 t 0) = (1 : Int32) then (some ((((a1.toInt32).toInt16.toInt32).toInt64), h)) else (if (h.1 t 0) = (2 : Int32) then (some (((a1.toInt32).toInt64), h)) else (if (h.1 t 0) = (3 : Int32) then (some (a1, h)) else (if (h.1 t 0) = (4 : Int32) then (if (lg_cmp a1 (0 : Int64)) = 0 then (some ((0 : Int64), h)) else (some ((1 : Int64), h))) else (some (a1, h))))))) else none)
def f_X9_item (F : Nat) (a1 : Int32) (a2 : Int32) (a3 : Int64) (h : PH) : Option (Int32 × PH) := (bnd (f_X9_isTape F a1 h) fun v1 h1 => (if v1 = 0 then (some ((-1 : Int32), h1)) else (if inb a1 6 = true then (if (h1.1 (90 + 2 * ix a1) 0) = (-1 : Int32) then (some ((-11 : Int32), h1)) else (if inb a1 6 = true then (bnd (f_X8_has F (90 + 2 * ix a1) a2 h1) fun v6 h6 => (if v6 = 0 then (some ((-13 : Int32), h6)) else (if inb a1 6 = true then (if inb a1 6 = true then (bnd (f_X8_cut F (90 + 2 * ix a1) a3 h6) fun v10 h10 => (if inb a2 60 = true then (lth (wL h10 ((90 + 2 * ix a1) + 1) (ix a2) v10) fun h11 => (some ((1 : Int32), h11))) else none)) else none) else none))) else none)) else none)))
def f_X9_read (F : Nat) (a1 : Int32) (a2 : Int32) (h : PH) : Option (Int64 × PH) := (bnd (f_X9_isTape F a1 h) fun v1 h1 => (if v1 = 0 then (some ((-9223372036854775808 : Int64), h1)) else (if inb a1 6 = true then (bnd (f_X8_has F (90 + 2 * ix a1) a2 h1) fun v4 h4 => (if v4 = 0 then (some ((-9223372036854775808 : Int64), h4)) else (if inb a1 6 = true then (if inb a2 60 = true then (some ((h4.2.1 ((90 + 2 * ix a1) + 1) (ix a2)), h4)) else none) else none))) else none)))
def f_X8_hasRun (F : Nat) (t : Nat) (a1 : Int32) (a2 : Int32) (h : PH) : Option (Int32 × PH) := (if isTape t = true then (if a1 < 0 then (some ((0 : Int32), h)) else (if a2 < 0 then (some ((0 : Int32), h)) else (if (h.1 t 1) < a2 then (some ((0 : Int32), h)) else (if ((h.1 t 1) - a2) < a1 then (some ((0 : Int32), h)) else (some ((1 : Int32), h)))))) else none)
def f_X9_shift (F : Nat) (a1 : Int32) (a2 : Int32) (a3 : Int32) (a4 : Int32) (a5 : Int32) (h : PH) : Option (Int32 × PH) := (bnd (f_X9_isTape F a1 h) fun v1 h1 => (if v1 = 0 then (some ((-1 : Int32), h1)) else (bnd (f_X9_isTape F a3 h1) fun v3 h3 => (if v3 = 0 then (some ((-1 : Int32), h3)) else (if inb a1 6 = true then (if inb a3 6 = true then (if (h3.1 (90 + 2 * ix a1) 0) = (-1 : Int32) then (some ((-11 : Int32), h3)) else (if (h3.1 (90 + 2 * ix a3) 0) = (-1 : Int32) then (some ((-11 : Int32), h3)) else (if (h3.1 (90 + 2 * ix a1) 0) = (h3.1 (90 + 2 * ix a3) 0) then (bnd (f_X8_hasRun F (90 + 2 * ix a1) a2 a5 h3) fun v10 h10 => (if v10 = 0 then (some ((-13 : Int32), h10)) else (bnd (f_X8_hasRun F (90 + 2 * ix a3) a4 a5 h10) fun v12 h12 => (if v12 = 0 then (some ((-13 : Int32), h12)) else (if decide (0 ≤ a2.toInt) && (decide (0 ≤ a4.toInt) && (decide (0 ≤ a5.toInt) && (decide (a2.toInt + a5.toInt ≤ (60 : Nat)) && decide (a4.toInt + a5.toInt ≤ (60 : Nat))))) then (lth (rowL h12 ((90 + 2 * ix a3) + 1) (va_cpy (h12.2.1 ((90 + 2 * ix a1) + 1)) (h12.2.1 ((90 + 2 * ix a3) + 1)) (ix a2) (ix a4) (ix a5))) fun h14 => (some (a5, h14))) else none))))) else (some ((-12 : Int32), h3))))) else none) else none)))))
def f_X10_balks (F : Nat) (a1 : Int32) (a2 : Int32) (h : PH) : Option (Unit × PH) := (if a2 = 0 then (lth (wI h 102 1 ((h.1 102 1) &&& (((1 : Int32) <<< (a1 &&& 31)) ^^^ (-1 : Int32)))) fun h2 => (some ((), h2))) else (lth (wI h 102 1 ((h.1 102 1) ||| ((1 : Int32) <<< (a1 &&& 31)))) fun h3 => (some ((), h3))))
def f_X10_in (F : Nat) (a1 : Int32) (a2 : Int32) (a3 : Int32) (h : PH) : Option (Int32 × PH) := (if a1 < a2 then (some ((0 : Int32), h)) else (if a3 < a1 then (some ((0 : Int32), h)) else (some ((1 : Int32), h))))
def fL_X10_clock_99 (F : Nat) : Nat → Int32 → PH → Option (Int32 × PH)
  | 0, _, _ => none
  | n + 1, x4, h => (if (4 : Int32) ≤ x4 then (lth (wI h 102 0 ((h.1 102 0) + (1 : Int32))) fun h13 => (some (((h13.1 102 0) - (1 : Int32)), h13))) else (if inb (((4 : Int32) * (h.1 102 0)) + x4) 24 = true then (lth (wI h 106 (ix (((4 : Int32) * (h.1 102 0)) + x4)) (0 : Int32)) fun h14 => (fL_X10_clock_99 F n (x4 + (1 : Int32)) h14)) else none))
def f_X10_clock (F : Nat) (a1 : Int32) (a2 : Int32) (a3 : Int32) (h : PH) : Option (Int32 × PH) := (bnd (f_X10_in F a1 (0 : Int32) (6 : Int32) h) fun v1 h1 => (if v1 = 0 then (some ((-1 : Int32), h1)) else (bnd (f_X10_in F a2 (0 : Int32) (9 : Int32) h1) fun v3 h3 => (if v3 = 0 then (some ((-2 : Int32), h3)) else (bnd (f_X10_in F a3 (0 : Int32) (h3.1 102 2) h3) fun v5 h5 => (if v5 = 0 then (some ((-2 : Int32), h5)) else (if (h5.1 102 0) = (6 : Int32) then (some ((-4 : Int32), h5)) else (if inb (h5.1 102 0) 6 = true then (lth (wI h5 103 (ix (h5.1 102 0)) a1) fun h8 => (if inb (h8.1 102 0) 6 = true then (lth (wI h8 104 (ix (h8.1 102 0)) a2) fun h9 => (if inb (h9.1 102 0) 6 = true then (lth (wI h9 105 (ix (h9.1 102 0)) ((h9.1 102 2) - a3)) fun h10 => (bnd (f_X10_balks F (h10.1 102 0) (0 : Int32) h10) fun v11 h11 => (fL_X10_clock_99 F F (0 : Int32) h11))) else none)) else none)) else none))))))))
def f_X10_isClock (F : Nat) (a1 : Int32) (h : PH) : Option (Int32 × PH) := (bnd (f_X10_in F a1 (0 : Int32) ((h.1 102 0) - (1 : Int32)) h) fun v1 h1 => (some ((v1 &&& 1), h1)))
def f_X10_set (F : Nat) (a1 : Int32) (a2 : Int32) (h : PH) : Option (Int32 × PH) := (bnd (f_X10_isClock F a1 h) fun v1 h1 => (if v1 = 0 then (some ((-1 : Int32), h1)) else (bnd (f_X10_in F a2 (0 : Int32) (h1.1 102 2) h1) fun v3 h3 => (if v3 = 0 then (some ((-2 : Int32), h3)) else (if inb a1 6 = true then (if inb a1 6 = true then (lth (wI h3 105 (ix a1) a2) fun h5 => (some ((h3.1 105 (ix a1)), h5))) else none) else none)))))
def f_X10_has (F : Nat) (a1 : Int32) (a2 : Int32) (h : PH) : Option (Int32 × PH) := (if ((a1 >>> (a2 &&& 31)) &&& (1 : Int32)) = (1 : Int32) then (some ((1 : Int32), h)) else (some ((0 : Int32), h)))
def f_X10_balk (F : Nat) (a1 : Int32) (a2 : Int32) (h : PH) : Option (Int32 × PH) := (bnd (f_X10_isClock F a1 h) fun v1 h1 => (if v1 = 0 then (some ((-1 : Int32), h1)) else (bnd (f_X10_has F (h1.1 102 1) a1 h1) fun v3 h3 => (if v3 = 0 then (bnd (f_X10_balks F a1 a2 h3) fun v5 h5 => (some ((0 : Int32), h5))) else (bnd (f_X10_balks F a1 a2 h3) fun v6 h6 => (some ((1 : Int32), h6)))))))
def f_X10_row (F : Nat) (a1 : Int32) (a2 : Int32) (a3 : Int32) (h : PH) : Option (Int32 × PH) := (bnd (f_X10_isClock F a1 h) fun v1 h1 => (if v1 = 0 then (some ((-1 : Int32), h1)) else (bnd (f_X10_in F a2 (0 : Int32) (3 : Int32) h1) fun v3 h3 => (if v3 = 0 then (some ((-1 : Int32), h3)) else (bnd (f_X10_in F a3 (0 : Int32) (9 : Int32) h3) fun v5 h5 => (if v5 = 0 then (some ((-2 : Int32), h5)) else (if inb a1 6 = true then (if (h5.1 103 (ix a1)) = (6 : Int32) then (if inb (((4 : Int32) * a1) + a2) 24 = true then (if inb (((4 : Int32) * a1) + a2) 24 = true then (lth (wI h5 106 (ix (((4 : Int32) * a1) + a2)) a3) fun h8 => (some ((h5.1 106 (ix (((4 : Int32) * a1) + a2))), h8))) else none) else none) else (some ((-3 : Int32), h5))) else none)))))))
def f_X10_feed (F : Nat) (a1 : Int32) (h : PH) : Option (Int32 × PH) := (bnd (f_X10_in F a1 (0 : Int32) (127 : Int32) h) fun v1 h1 => (if v1 = 0 then (some ((-2 : Int32), h1)) else (if (h1.1 102 9) = (100 : Int32) then (some ((-4 : Int32), h1)) else (if inb (h1.1 102 9) 100 = true then (lth (wI h1 107 (ix (h1.1 102 9)) a1) fun h4 => (lth (wI h4 102 9 ((h4.1 102 9) + (1 : Int32))) fun h5 => (some ((h5.1 102 9), h5)))) else none))))
def f_X10_peek (F : Nat)  (h : PH) : Option (Int32 × PH) := (if (h.1 102 9) ≤ (h.1 102 10) then (some ((-1 : Int32), h)) else (if inb (h.1 102 10) 100 = true then (some ((h.1 107 (ix (h.1 102 10))), h)) else none))
def f_X10_takes (F : Nat) (a1 : Int32) (h : PH) : Option (Int32 × PH) := (bnd (f_X10_peek F  h) fun v1 h1 => (if v1 = a1 then (lth (wI h1 102 10 ((h1.1 102 10) + (1 : Int32))) fun h3 => (some ((1 : Int32), h3))) else (some ((0 : Int32), h1))))
def f_X10_emits (F : Nat) (a1 : Int32) (h : PH) : Option (Unit × PH) := (if inb (h.1 102 20) 600 = true then (lth (wI h 113 (ix (h.1 102 20)) a1) fun h1 => (lth (wI h1 102 20 ((h1.1 102 20) + (1 : Int32))) fun h2 => (some ((), h2)))) else none)
def fL_X10_settle_45 (F : Nat) (K0 : Int32 → PH → Option (Unit × PH)) (x1 : Int32) (h : PH) : Option (Unit × PH) := (lth (wI h 102 21 ((h.1 102 21) - (1 : Int32))) fun h3 => (if inb (h3.1 102 21) 101 = true then (bnd (f_X10_emits F (-(h3.1 114 (ix (h3.1 102 21)))) h3) fun v4 h4 => (K0 x1 h4)) else none))
def fL_X10_settle_0 (F : Nat) : Nat → Int32 → PH → Option (Unit × PH)
  | 0, _, _ => none
  | n + 1, x1, h => (if (h.1 102 21) ≤ 0 then (some ((), h)) else (if inb ((h.1 102 21) - (1 : Int32)) 101 = true then (if (h.1 114 (ix ((h.1 102 21) - (1 : Int32)))) = (38 : Int32) then (fL_X10_settle_45 F (fun (x5 : Int32) (h6 : PH) => (fL_X10_settle_0 F n x5 h6)) x1 h) else (if inb ((h.1 102 21) - (1 : Int32)) 101 = true then (if (h.1 114 (ix ((h.1 102 21) - (1 : Int32)))) = (124 : Int32) then (if x1 = (38 : Int32) then (some ((), h)) else (fL_X10_settle_45 F (fun (x9 : Int32) (h10 : PH) => (fL_X10_settle_0 F n x9 h10)) x1 h)) else (some ((), h))) else none)) else none))
def f_X10_settle (F : Nat) (a1 : Int32) (h : PH) : Option (Unit × PH) := (fL_X10_settle_0 F F a1 h)
def f_X10_place (F : Nat) (a1 : Int32) (h : PH) : Option (Int32 × PH) := (if a1 = (99 : Int32) then (some ((0 : Int32), h)) else (if a1 = (100 : Int32) then (some ((3 : Int32), h)) else (if a1 = (101 : Int32) then (some ((-1 : Int32), h)) else (if a1 = (102 : Int32) then (some ((-1 : Int32), h)) else (if a1 = (103 : Int32) then (some ((-1 : Int32), h)) else (if a1 = (104 : Int32) then (some ((5 : Int32), h)) else (if a1 = (105 : Int32) then (some ((-1 : Int32), h)) else (if a1 = (106 : Int32) then (some ((-1 : Int32), h)) else (if a1 = (107 : Int32) then (some ((1 : Int32), h)) else (if a1 = (108 : Int32) then (some ((-1 : Int32), h)) else (if a1 = (109 : Int32) then (some ((-1 : Int32), h)) else (if a1 = (110 : Int32) then (some ((-1 : Int32), h)) else (if a1 = (111 : Int32) then (some ((-1 : Int32), h)) else (if a1 = (112 : Int32) then (some ((-1 : Int32), h)) else (if a1 = (113 : Int32) then (some ((-1 : Int32), h)) else (if a1 = (114 : Int32) then (some ((-1 : Int32), h)) else (if a1 = (115 : Int32) then (some ((-1 : Int32), h)) else (if a1 = (116 : Int32) then (some ((4 : Int32), h)) else (if a1 = (117 : Int32) then (some ((-1 : Int32), h)) else (if a1 = (118 : Int32) then (some ((2 : Int32), h)) else (some ((-1 : Int32), h))))))))))))))))))))))
def f_X10_isDigit (F : Nat)  (h : PH) : Option (Int32 × PH) := (bnd (f_X10_peek F  h) fun v1 h1 => (bnd (f_X10_in F v1 (48 : Int32) (57 : Int32) h1) fun v2 h2 => (some ((v2 &&& 1), h2))))
def fL_X10_takesNumber_16 (F : Nat) : Nat → Int32 → PH → Option (Int32 × PH)
  | 0, _, _ => none
  | n + 1, x1, h => (if (2 : Int32) ≤ x1 then (some ((1 : Int32), h)) else (bnd (f_X10_isDigit F  h) fun v5 h5 => (if v5 = 0 then (some ((1 : Int32), h5)) else (bnd (f_X10_peek F  h5) fun v7 h7 => (lth (wI h7 102 11 ((((10 : Int32) * (h5.1 102 11)) + v7) - (48 : Int32))) fun h8 => (lth (wI h8 102 10 ((h8.1 102 10) + (1 : Int32))) fun h9 => (fL_X10_takesNumber_16 F n (x1 + (1 : Int32)) h9)))))))
def f_X10_takesNumber (F : Nat)  (h : PH) : Option (Int32 × PH) := (bnd (f_X10_isDigit F  h) fun v1 h1 => (if v1 = 0 then (some ((0 : Int32), h1)) else (lth (wI h1 102 11 (0 : Int32)) fun h3 => (fL_X10_takesNumber_16 F F (0 : Int32) h3))))
def fL_X10_whole_0 (F : Nat) : Nat → PH → Option (Unit × PH)
  | 0, _ => none
  | n + 1, h => (if (h.1 102 21) ≤ 0 then (some ((), h)) else (if inb ((h.1 102 21) - (1 : Int32)) 101 = true then (if (h.1 114 (ix ((h.1 102 21) - (1 : Int32)))) = (33 : Int32) then (bnd (f_X10_emits F (-33 : Int32) h) fun v3 h3 => (lth (wI h3 102 21 ((h3.1 102 21) - (1 : Int32))) fun h4 => (lth (wI h4 102 22 ((h4.1 102 22) - (1 : Int32))) fun h5 => (fL_X10_whole_0 F n  h5)))) else (some ((), h))) else none))
def f_X10_whole (F : Nat)  (h : PH) : Option (Unit × PH) := (fL_X10_whole_0 F F  h)
def f_X10_takesTest (F : Nat)  (h : PH) : Option (Int32 × PH) := (bnd (f_X10_peek F  h) fun v1 h1 => (bnd (f_X10_place F v1 h1) fun v2 h2 => (if 0 ≤ v2 then (lth (wI h2 102 10 ((h2.1 102 10) + (1 : Int32))) fun h4 => (bnd (f_X10_peek F  h4) fun v5 h5 => (bnd (f_X10_in F v5 (60 : Int32) (62 : Int32) h5) fun v6 h6 => (if v6 = 0 then (some ((0 : Int32), h6)) else (lth (wI h6 102 10 ((h6.1 102 10) + (1 : Int32))) fun h8 => (bnd (f_X10_takesNumber F  h8) fun v9 h9 => (if v9 = 0 then (some ((0 : Int32), h9)) else (bnd (f_X10_emits F ((((1000 : Int32) * v2) + ((100 : Int32) * (v5 - (60 : Int32)))) + (h9.1 102 11)) h9) fun v11 h11 => (bnd (f_X10_whole F  h11) fun v12 h12 => (some ((1 : Int32), h12))))))))))) else (some ((0 : Int32), h2)))))
def fL_X10_takesE_122 (F : Nat) (K22 : Int32 → Int32 → PH → Option (Int32 × PH)) (x1 : Int32) (x3 : Int32) (h : PH) : Option (Int32 × PH) := (bnd (f_X10_settle F x3 h) fun v7 h7 => (if inb (h7.1 102 21) 101 = true then (lth (wI h7 114 (ix (h7.1 102 21)) x3) fun h8 => (lth (wI h8 102 21 ((h8.1 102 21) + (1 : Int32))) fun h9 => (lth (wI h9 102 10 ((h9.1 102 10) + (1 : Int32))) fun h10 => (K22 x1 (1 : Int32) h10)))) else none))
def fL_X10_takesE_43 (F : Nat) (K22 : Int32 → Int32 → PH → Option (Int32 × PH)) (x1 : Int32) (x2 : Int32) (x3 : Int32) (h : PH) : Option (Int32 × PH) := (if (h.1 102 22) = (4 : Int32) then (some ((0 : Int32), h)) else (lth (wI h 102 22 ((h.1 102 22) + (1 : Int32))) fun h28 => (if inb (h28.1 102 21) 101 = true then (lth (wI h28 114 (ix (h28.1 102 21)) x3) fun h29 => (lth (wI h29 102 21 ((h29.1 102 21) + (1 : Int32))) fun h30 => (lth (wI h30 102 10 ((h30.1 102 10) + (1 : Int32))) fun h31 => (K22 x1 x2 h31)))) else none)))
def fL_X10_takesE_22 (F : Nat) : Nat → Int32 → Int32 → PH → Option (Int32 × PH)
  | 0, _, _, _ => none
  | n + 1, x1, x2, h => (bnd (f_X10_peek F  h) fun v4 h4 => (if x2 = 0 then (if v4 = (38 : Int32) then (fL_X10_takesE_122 F (fun (x11 : Int32) (x12 : Int32) (h13 : PH) => (fL_X10_takesE_22 F n x11 x12 h13)) x1 v4 h4) else (if v4 = (124 : Int32) then (fL_X10_takesE_122 F (fun (x23 : Int32) (x24 : Int32) (h25 : PH) => (fL_X10_takesE_22 F n x23 x24 h25)) x1 v4 h4) else (bnd (f_X10_settle F (124 : Int32) h4) fun v15 h15 => (if inb x1 60 = true then (lth (wI h15 112 (ix x1) (h15.1 102 20)) fun h16 => (if (h16.1 102 21) = 0 then (some ((1 : Int32), h16)) else (if v4 = (41 : Int32) then (lth (wI h16 102 21 ((h16.1 102 21) - (1 : Int32))) fun h19 => (lth (wI h19 102 22 ((h19.1 102 22) - (1 : Int32))) fun h20 => (lth (wI h20 102 10 ((h20.1 102 10) + (1 : Int32))) fun h21 => (bnd (f_X10_whole F  h21) fun v22 h22 => (fL_X10_takesE_22 F n x1 x2 h22))))) else (some ((0 : Int32), h16))))) else none)))) else (if v4 = (33 : Int32) then (fL_X10_takesE_43 F (fun (x32 : Int32) (x33 : Int32) (h34 : PH) => (fL_X10_takesE_22 F n x32 x33 h34)) x1 x2 v4 h4) else (if v4 = (40 : Int32) then (fL_X10_takesE_43 F (fun (x38 : Int32) (x39 : Int32) (h40 : PH) => (fL_X10_takesE_22 F n x38 x39 h40)) x1 x2 v4 h4) else (bnd (f_X10_takesTest F  h4) fun v36 h36 => (if v36 = 0 then (some ((0 : Int32), h36)) else (fL_X10_takesE_22 F n x1 (0 : Int32) h36)))))))
def f_X10_takesE (F : Nat) (a1 : Int32) (h : PH) : Option (Int32 × PH) := (lth (wI h 102 21 (0 : Int32)) fun h1 => (lth (wI h1 102 22 (0 : Int32)) fun h2 => (if inb a1 60 = true then (lth (wI h2 111 (ix a1) (h2.1 102 20)) fun h3 => (fL_X10_takesE_22 F F a1 (1 : Int32) h3)) else none)))
def fL_X10_takesWord_2 (F : Nat) : Nat → Int32 → Int32 → Int32 → PH → Option (Int32 × PH)
  | 0, _, _, _, _ => none
  | n + 1, x1, x2, x3, h => (if x2 ≤ x3 then (bnd (f_X10_takes F (32 : Int32) h) fun v2 h2 => (some ((v2 &&& 1), h2))) else (if inb (x1 + x3) 12 = true then (bnd (f_X10_takes F (h.1 115 (ix (x1 + x3))) h) fun v3 h3 => (if v3 = 0 then (some ((0 : Int32), h3)) else (fL_X10_takesWord_2 F n x1 x2 (x3 + (1 : Int32)) h3))) else none))
def f_X10_takesWord (F : Nat) (a1 : Int32) (a2 : Int32) (h : PH) : Option (Int32 × PH) := (fL_X10_takesWord_2 F F a1 a2 (0 : Int32) h)
def f_X10_takesHead (F : Nat) (a1 : Int32) (h : PH) : Option (Int32 × PH) := (bnd (f_X10_peek F  h) fun v1 h1 => (if v1 = (104 : Int32) then (if inb a1 60 = true then (lth (wI h1 109 (ix a1) (1 : Int32)) fun h3 => (bnd (f_X10_takesWord F (4 : Int32) (4 : Int32) h3) fun v4 h4 => (some ((v4 &&& 1), h4)))) else none) else (if v1 = (110 : Int32) then (if inb a1 60 = true then (lth (wI h1 109 (ix a1) (0 : Int32)) fun h5 => (bnd (f_X10_takesWord F (0 : Int32) (4 : Int32) h5) fun v6 h6 => (some ((v6 &&& 1), h6)))) else none) else (if inb a1 60 = true then (lth (wI h1 109 (ix a1) (2 : Int32)) fun h7 => (bnd (f_X10_takesWord F (8 : Int32) (4 : Int32) h7) fun v8 h8 => (some ((v8 &&& 1), h8)))) else none))))
def f_X10_takesClause (F : Nat) (a1 : Int32) (h : PH) : Option (Int32 × PH) := (bnd (f_X10_takesHead F a1 h) fun v1 h1 => (if v1 = 0 then (some ((0 : Int32), h1)) else (bnd (f_X10_takesNumber F  h1) fun v3 h3 => (if v3 = 0 then (some ((0 : Int32), h3)) else (if inb a1 60 = true then (lth (wI h3 110 (ix a1) (h3.1 102 11)) fun h5 => (if inb a1 60 = true then (if (h5.1 109 (ix a1)) = (2 : Int32) then (some ((1 : Int32), h5)) else (bnd (f_X10_takes F (32 : Int32) h5) fun v7 h7 => (if v7 = 0 then (some ((0 : Int32), h7)) else (bnd (f_X10_takesE F a1 h7) fun v9 h9 => (if v9 = 0 then (some ((0 : Int32), h9)) else (some ((1 : Int32), h9))))))) else none)) else none)))))
def fL_X10_goesText_15 (F : Nat) : Nat → Int32 → Int32 → PH → Option (Int32 × PH)
  | 0, _, _, _ => none
  | n + 1, x1, x2, h => (bnd (f_X10_takesClause F (((10 : Int32) * x1) + x2) h) fun v3 h3 => (if v3 = 0 then (some ((0 : Int32), h3)) else (if inb x1 6 = true then (lth (wI h3 108 (ix x1) (x2 + (1 : Int32))) fun h5 => (if (h5.1 102 10) = (h5.1 102 9) then (some ((1 : Int32), h5)) else (if (x2 + (1 : Int32)) = (10 : Int32) then (some ((0 : Int32), h5)) else (bnd (f_X10_takes F (59 : Int32) h5) fun v8 h8 => (if v8 = 0 then (some ((0 : Int32), h8)) else (fL_X10_goesText_15 F n x1 (x2 + (1 : Int32)) h8)))))) else none)))
def f_X10_goesText (F : Nat) (a1 : Int32) (h : PH) : Option (Int32 × PH) := (lth (wI h 102 10 (0 : Int32)) fun h1 => (lth (wI h1 102 20 ((100 : Int32) * a1)) fun h2 => (fL_X10_goesText_15 F F a1 (0 : Int32) h2)))
def f_X10_bench (F : Nat)  (h : PH) : Option (Int32 × PH) := (if (h.1 102 7) = (6 : Int32) then (some ((-4 : Int32), h)) else (bnd (f_X10_goesText F (h.1 102 7) h) fun v2 h2 => (lth (wI h2 102 9 (0 : Int32)) fun h3 => (if v2 = 0 then (some (((-10 : Int32) - (h3.1 102 10)), h3)) else (lth (wI h3 102 8 (h3.1 102 7)) fun h5 => (lth (wI h5 102 7 ((h5.1 102 7) + (1 : Int32))) fun h6 => (some ((h6.1 102 8), h6))))))))
def f_X10_isDay (F : Nat) (a1 : Int32) (h : PH) : Option (Int32 × PH) := (bnd (f_X10_in F a1 (0 : Int32) (9999 : Int32) h) fun v1 h1 => (some ((v1 &&& 1), h1)))
def f_X10_begin (F : Nat)  (h : PH) : Option (Int32 × PH) := (if 0 ≤ (h.1 102 8) then (some (((10 : Int32) * (h.1 102 8)), h)) else (some ((0 : Int32), h)))
def f_X10_behind (F : Nat)  (h : PH) : Option (Int32 × PH) := (if 0 ≤ (h.1 102 8) then (if inb (h.1 102 8) 6 = true then (some ((((10 : Int32) * (h.1 102 8)) + (h.1 108 (ix (h.1 102 8)))), h)) else none) else (some ((0 : Int32), h)))
def f_X10_factOf (F : Nat) (a1 : Int32) (a2 : Int32) (a3 : Int32) (h : PH) : Option (Int32 × PH) := (if a1 = (0 : Int32) then (some (a2, h)) else (if a1 = (1 : Int32) then (if inb a2 6 = true then (some ((h.1 103 (ix a2)), h)) else none) else (if a1 = (2 : Int32) then (if inb a2 6 = true then (some ((h.1 104 (ix a2)), h)) else none) else (if a1 = (3 : Int32) then (if (10 : Int32) = 0 then none else (some ((jrem a3 (10 : Int32)), h))) else (if a1 = (4 : Int32) then (if (10 : Int32) = 0 then none else (if (10 : Int32) = 0 then none else (some ((jrem (a3 / (10 : Int32)) (10 : Int32)), h)))) else (if (100 : Int32) = 0 then none else (some ((jrem a3 (100 : Int32)), h))))))))
def fL_X10_holds_11 (F : Nat) : Nat → Int32 → Int32 → Int32 → Int32 → Int32 → PH → Option (Int32 × PH)
  | 0, _, _, _, _, _, _ => none
  | n + 1, x1, x2, x3, x4, x5, h => (if inb x1 60 = true then (if (h.1 112 (ix x1)) ≤ x5 then (if inb (0 : Int32) 100 = true then (some (((h.1 116 (ix (0 : Int32))) &&& 1), h)) else none) else (if inb x5 600 = true then (if (h.1 113 (ix x5)) = (-33 : Int32) then (if inb (x4 - (1 : Int32)) 100 = true then (if (h.1 116 (ix (x4 - (1 : Int32)))) = 0 then (if inb (x4 - (1 : Int32)) 100 = true then (lth (wI h 116 (ix (x4 - (1 : Int32))) (vp_nar .boolean (1 : Int32))) fun h29 => (fL_X10_holds_11 F n x1 x2 x3 x4 (x5 + (1 : Int32)) h29)) else none) else (if inb (x4 - (1 : Int32)) 100 = true then (lth (wI h 116 (ix (x4 - (1 : Int32))) (vp_nar .boolean (0 : Int32))) fun h28 => (fL_X10_holds_11 F n x1 x2 x3 x4 (x5 + (1 : Int32)) h28)) else none)) else none) else (if 0 ≤ (h.1 113 (ix x5)) then (if (1000 : Int32) = 0 then none else (bnd (f_X10_factOf F ((h.1 113 (ix x5)) / (1000 : Int32)) x2 x3 h) fun v4 h4 => (if (100 : Int32) = 0 then none else (if (10 : Int32) = 0 then none else (if (jrem ((h.1 113 (ix x5)) / (100 : Int32)) (10 : Int32)) = 0 then (if (100 : Int32) = 0 then none else (if (jrem (h.1 113 (ix x5)) (100 : Int32)) ≤ v4 then (if inb x4 100 = true then (lth (wI h4 116 (ix x4) (vp_nar .boolean (0 : Int32))) fun h14 => (fL_X10_holds_11 F n x1 x2 x3 (x4 + (1 : Int32)) (x5 + (1 : Int32)) h14)) else none) else (if inb x4 100 = true then (lth (wI h4 116 (ix x4) (vp_nar .boolean (1 : Int32))) fun h15 => (fL_X10_holds_11 F n x1 x2 x3 (x4 + (1 : Int32)) (x5 + (1 : Int32)) h15)) else none))) else (if (jrem ((h.1 113 (ix x5)) / (100 : Int32)) (10 : Int32)) = (1 : Int32) then (if (100 : Int32) = 0 then none else (if v4 = (jrem (h.1 113 (ix x5)) (100 : Int32)) then (if inb x4 100 = true then (lth (wI h4 116 (ix x4) (vp_nar .boolean (1 : Int32))) fun h12 => (fL_X10_holds_11 F n x1 x2 x3 (x4 + (1 : Int32)) (x5 + (1 : Int32)) h12)) else none) else (if inb x4 100 = true then (lth (wI h4 116 (ix x4) (vp_nar .boolean (0 : Int32))) fun h11 => (fL_X10_holds_11 F n x1 x2 x3 (x4 + (1 : Int32)) (x5 + (1 : Int32)) h11)) else none))) else (if (100 : Int32) = 0 then none else (if v4 ≤ (jrem (h.1 113 (ix x5)) (100 : Int32)) then (if inb x4 100 = true then (lth (wI h4 116 (ix x4) (vp_nar .boolean (0 : Int32))) fun h8 => (fL_X10_holds_11 F n x1 x2 x3 (x4 + (1 : Int32)) (x5 + (1 : Int32)) h8)) else none) else (if inb x4 100 = true then (lth (wI h4 116 (ix x4) (vp_nar .boolean (1 : Int32))) fun h9 => (fL_X10_holds_11 F n x1 x2 x3 (x4 + (1 : Int32)) (x5 + (1 : Int32)) h9)) else none))))))))) else (if (h.1 113 (ix x5)) = (-38 : Int32) then (if inb ((x4 + (-1 : Int32)) - (1 : Int32)) 100 = true then (if (h.1 116 (ix ((x4 + (-1 : Int32)) - (1 : Int32)))) = 0 then (if inb ((x4 + (-1 : Int32)) - (1 : Int32)) 100 = true then (lth (wI h 116 (ix ((x4 + (-1 : Int32)) - (1 : Int32))) (vp_nar .boolean (0 : Int32))) fun h23 => (fL_X10_holds_11 F n x1 x2 x3 (x4 + (-1 : Int32)) (x5 + (1 : Int32)) h23)) else none) else (if inb (x4 + (-1 : Int32)) 100 = true then (if (h.1 116 (ix (x4 + (-1 : Int32)))) = 0 then (if inb ((x4 + (-1 : Int32)) - (1 : Int32)) 100 = true then (lth (wI h 116 (ix ((x4 + (-1 : Int32)) - (1 : Int32))) (vp_nar .boolean (0 : Int32))) fun h25 => (fL_X10_holds_11 F n x1 x2 x3 (x4 + (-1 : Int32)) (x5 + (1 : Int32)) h25)) else none) else (if inb ((x4 + (-1 : Int32)) - (1 : Int32)) 100 = true then (lth (wI h 116 (ix ((x4 + (-1 : Int32)) - (1 : Int32))) (vp_nar .boolean (1 : Int32))) fun h26 => (fL_X10_holds_11 F n x1 x2 x3 (x4 + (-1 : Int32)) (x5 + (1 : Int32)) h26)) else none)) else none)) else none) else (if inb ((x4 + (-1 : Int32)) - (1 : Int32)) 100 = true then (if (h.1 116 (ix ((x4 + (-1 : Int32)) - (1 : Int32)))) = 0 then (if inb (x4 + (-1 : Int32)) 100 = true then (if (h.1 116 (ix (x4 + (-1 : Int32)))) = 0 then (if inb ((x4 + (-1 : Int32)) - (1 : Int32)) 100 = true then (lth (wI h 116 (ix ((x4 + (-1 : Int32)) - (1 : Int32))) (vp_nar .boolean (0 : Int32))) fun h20 => (fL_X10_holds_11 F n x1 x2 x3 (x4 + (-1 : Int32)) (x5 + (1 : Int32)) h20)) else none) else (if inb ((x4 + (-1 : Int32)) - (1 : Int32)) 100 = true then (lth (wI h 116 (ix ((x4 + (-1 : Int32)) - (1 : Int32))) (vp_nar .boolean (1 : Int32))) fun h21 => (fL_X10_holds_11 F n x1 x2 x3 (x4 + (-1 : Int32)) (x5 + (1 : Int32)) h21)) else none)) else none) else (if inb ((x4 + (-1 : Int32)) - (1 : Int32)) 100 = true then (lth (wI h 116 (ix ((x4 + (-1 : Int32)) - (1 : Int32))) (vp_nar .boolean (1 : Int32))) fun h18 => (fL_X10_holds_11 F n x1 x2 x3 (x4 + (-1 : Int32)) (x5 + (1 : Int32)) h18)) else none)) else none)))) else none)) else none)
def f_X10_holds (F : Nat) (a1 : Int32) (a2 : Int32) (a3 : Int32) (h : PH) : Option (Int32 × PH) := (if inb a1 60 = true then (fL_X10_holds_11 F F a1 a2 a3 (0 : Int32) (h.1 111 (ix a1)) h) else none)
def fL_X10_newsNow_8 (F : Nat) : Nat → Int32 → Int32 → Int32 → Int32 → PH → Option (Int32 × PH)
  | 0, _, _, _, _, _ => none
  | n + 1, x1, x2, x3, x4, h => (bnd (f_X10_behind F  h) fun v2 h2 => (if v2 ≤ x4 then (if 0 ≤ x3 then (some (x3, h2)) else (some ((0 : Int32), h2))) else (if inb x4 60 = true then (if (1 : Int32) < (h2.1 109 (ix x4)) then (fL_X10_newsNow_8 F n x1 x2 x3 (x4 + (1 : Int32)) h2) else (bnd (f_X10_holds F x4 x1 x2 h2) fun v6 h6 => (if v6 = 0 then (fL_X10_newsNow_8 F n x1 x2 x3 (x4 + (1 : Int32)) h6) else (if inb x4 60 = true then (if (h6.1 109 (ix x4)) = 0 then (if inb x4 60 = true then (fL_X10_newsNow_8 F n x1 x2 (x3 + (h6.1 110 (ix x4))) (x4 + (1 : Int32)) h6) else none) else (if inb x4 60 = true then (fL_X10_newsNow_8 F n x1 x2 (x3 + (-(h6.1 110 (ix x4)))) (x4 + (1 : Int32)) h6) else none)) else none)))) else none)))
def f_X10_newsNow (F : Nat) (a1 : Int32) (a2 : Int32) (h : PH) : Option (Int32 × PH) := (bnd (f_X10_begin F  h) fun v1 h1 => (fL_X10_newsNow_8 F F a1 a2 (1 : Int32) v1 h1))
def f_X10_newsOf (F : Nat) (a1 : Int32) (a2 : Int32) (h : PH) : Option (Int32 × PH) := (if inb a1 6 = true then (if (h.1 102 25) = 0 then (bnd (f_X10_newsNow F a1 a2 h) fun v2 h2 => (some (v2, h2))) else (bnd (f_X10_in F (a2 - (h.1 118 (ix a1))) (0 : Int32) (799 : Int32) h) fun v3 h3 => (if v3 = 0 then (bnd (f_X10_newsNow F a1 a2 h3) fun v5 h5 => (some (v5, h5))) else (if inb (((800 : Int32) * a1) + (a2 - (h.1 118 (ix a1)))) 4800 = true then (some ((h3.1 117 (ix (((800 : Int32) * a1) + (a2 - (h.1 118 (ix a1)))))), h3)) else none)))) else none)
def f_X10_news (F : Nat) (a1 : Int32) (a2 : Int32) (h : PH) : Option (Int32 × PH) := (bnd (f_X10_isClock F a1 h) fun v1 h1 => (if v1 = 0 then (some ((-1 : Int32), h1)) else (bnd (f_X10_isDay F a2 h1) fun v3 h3 => (if v3 = 0 then (some ((-2 : Int32), h3)) else (bnd (f_X10_newsOf F a1 a2 h3) fun v5 h5 => (some (v5, h5)))))))
def f_X10_isUp (F : Nat) (a1 : Int32) (h : PH) : Option (Int32 × PH) := (if inb a1 6 = true then (if (h.1 105 (ix a1)) = (h.1 102 2) then (some ((1 : Int32), h)) else (some ((0 : Int32), h))) else none)
def fL_X10_goNight_2 (F : Nat) : Nat → Int32 → PH → Option (Unit × PH)
  | 0, _, _ => none
  | n + 1, x1, h => (if (h.1 102 0) ≤ x1 then (lth (wI h 102 2 ((h.1 102 2) + (1 : Int32))) fun h2 => (some ((), h2))) else (if inb x1 6 = true then (bnd (f_X10_isUp F x1 h) fun v3 h3 => (if v3 = 0 then (if inb x1 6 = true then (lth (wI h3 105 (ix x1) ((h.1 105 (ix x1)) + (0 : Int32))) fun h5 => (fL_X10_goNight_2 F n (x1 + (1 : Int32)) h5)) else none) else (if inb x1 6 = true then (lth (wI h3 105 (ix x1) ((h.1 105 (ix x1)) + (1 : Int32))) fun h6 => (fL_X10_goNight_2 F n (x1 + (1 : Int32)) h6)) else none))) else none))
def f_X10_goNight (F : Nat)  (h : PH) : Option (Unit × PH) := (fL_X10_goNight_2 F F (0 : Int32) h)
def fL_X10_pace_8 (F : Nat) : Nat → Int32 → Int32 → PH → Option (Int32 × PH)
  | 0, _, _, _ => none
  | n + 1, x1, x2, h => (bnd (f_X10_behind F  h) fun v2 h2 => (if v2 ≤ x2 then (if (1 : Int32) ≤ x1 then (some (x1, h2)) else (some ((1 : Int32), h2))) else (if inb x2 60 = true then (if (h2.1 109 (ix x2)) = (2 : Int32) then (if inb x2 60 = true then (fL_X10_pace_8 F n (h2.1 110 (ix x2)) (x2 + (1 : Int32)) h2) else none) else (fL_X10_pace_8 F n x1 (x2 + (1 : Int32)) h2)) else none)))
def f_X10_pace (F : Nat)  (h : PH) : Option (Int32 × PH) := (bnd (f_X10_begin F  h) fun v1 h1 => (fL_X10_pace_8 F F (10 : Int32) v1 h1))
def fL_X10_holdsOf_19 (F : Nat) (x1 : Int32) (x2 : Int32) (xs0 : Int32) (h : PH) : Option (Int32 × PH) := (if inb x1 6 = true then (if (h.1 103 (ix x1)) = (1 : Int32) then (some (((2 : Int32) * x2), h)) else (if (h.1 103 (ix x1)) = (2 : Int32) then (some (x2, h)) else (if (h.1 103 (ix x1)) = (3 : Int32) then (some (xs0, h)) else (if (h.1 103 (ix x1)) = (4 : Int32) then (if inb x1 6 = true then (some ((((2 : Int32) * x2) + (h.1 104 (ix x1))), h)) else none) else (if (h.1 103 (ix x1)) = (5 : Int32) then (some (x2, h)) else (if (h.1 103 (ix x1)) = (6 : Int32) then (if (4 : Int32) = 0 then none else (if inb (((4 : Int32) * x1) + (jrem (h.1 102 2) (4 : Int32))) 24 = true then (some ((xs0 + (h.1 106 (ix (((4 : Int32) * x1) + (jrem (h.1 102 2) (4 : Int32)))))), h)) else none)) else (some (x2, h)))))))) else none)
def f_X10_holdsOf (F : Nat) (a1 : Int32) (h : PH) : Option (Int32 × PH) := (bnd (f_X10_pace F  h) fun v1 h1 => (if (2 : Int32) = 0 then none else (if (1 : Int32) ≤ (v1 / (2 : Int32)) then (if (2 : Int32) = 0 then none else (fL_X10_holdsOf_19 F a1 v1 (v1 / (2 : Int32)) h1)) else (fL_X10_holdsOf_19 F a1 v1 (1 : Int32) h1))))
def fL_X10_minds_45 (F : Nat) (x1 : Int32) (x2 : Int32) (h : PH) : Option (Int32 × PH) := (bnd (f_X10_newsOf F x1 x2 h) fun v3 h3 => (if inb x1 6 = true then (if v3 ≤ ((h3.1 104 (ix x1)) + (3 : Int32)) then (some ((0 : Int32), h3)) else (some ((1 : Int32), h3))) else none))
def f_X10_minds (F : Nat) (a1 : Int32) (a2 : Int32) (h : PH) : Option (Int32 × PH) := (if inb a1 6 = true then (if (h.1 103 (ix a1)) = (5 : Int32) then (if inb a1 6 = true then (if ((h.1 104 (ix a1)) + (2 : Int32)) = 0 then none else (if (jrem a2 ((h.1 104 (ix a1)) + (2 : Int32))) = 0 then (some ((0 : Int32), h)) else (if inb a1 6 = true then (if (h.1 103 (ix a1)) = (2 : Int32) then (fL_X10_minds_45 F a1 a2 h) else (if inb a1 6 = true then (if (h.1 103 (ix a1)) = (5 : Int32) then (fL_X10_minds_45 F a1 a2 h) else (some ((0 : Int32), h))) else none)) else none))) else none) else (if inb a1 6 = true then (if (h.1 103 (ix a1)) = (2 : Int32) then (fL_X10_minds_45 F a1 a2 h) else (if inb a1 6 = true then (if (h.1 103 (ix a1)) = (5 : Int32) then (fL_X10_minds_45 F a1 a2 h) else (some ((0 : Int32), h))) else none)) else none)) else none)
def fL_X10_goEvening_91 (F : Nat) (K11 : Int32 → Int32 → Int32 → Int32 → PH → Option (Int32 × PH)) (x1 : Int32) (x2 : Int32) (x3 : Int32) (x4 : Int32) (x5 : Int32) (h : PH) : Option (Int32 × PH) := (if inb x1 6 = true then (if inb x1 6 = true then (lth (wI h 105 (ix x1) ((h.1 105 (ix x1)) + (1 : Int32))) fun h13 => (K11 x1 (x2 + (1 : Int32)) (x3 + x5) x4 h13)) else none) else none)
def fL_X10_goEvening_11 (F : Nat) : Nat → Int32 → Int32 → Int32 → Int32 → PH → Option (Int32 × PH)
  | 0, _, _, _, _, _ => none
  | n + 1, x1, x2, x3, x4, h => (if (30 : Int32) ≤ x2 then (bnd (f_X10_goNight F  h) fun v3 h3 => (some (x2, h3))) else (if inb x1 6 = true then (if (h.1 102 2) ≤ (h.1 105 (ix x1)) then (bnd (f_X10_goNight F  h) fun v5 h5 => (some (x2, h5))) else (bnd (f_X10_has F (h.1 102 1) x1 h) fun v6 h6 => (if v6 = 0 then (if inb x1 6 = true then (bnd (f_X10_newsOf F x1 (h6.1 105 (ix x1)) h6) fun v9 h9 => (if inb x1 6 = true then (bnd (f_X10_minds F x1 (h9.1 105 (ix x1)) h9) fun v10 h10 => (if v10 = 0 then (if x2 = 0 then (fL_X10_goEvening_91 F (fun (x14 : Int32) (x15 : Int32) (x16 : Int32) (x17 : Int32) (h18 : PH) => (fL_X10_goEvening_11 F n x14 x15 x16 x17 h18)) x1 x2 x3 x4 v9 h10) else (if x4 < (x3 + v9) then (bnd (f_X10_goNight F  h10) fun v20 h20 => (some (x2, h20))) else (fL_X10_goEvening_91 F (fun (x21 : Int32) (x22 : Int32) (x23 : Int32) (x24 : Int32) (h25 : PH) => (fL_X10_goEvening_11 F n x21 x22 x23 x24 h25)) x1 x2 x3 x4 v9 h10))) else (bnd (f_X10_balks F x1 (1 : Int32) h10) fun v26 h26 => (fL_X10_goEvening_11 F n x1 x2 x3 x4 h26)))) else none)) else none) else (bnd (f_X10_goNight F  h6) fun v8 h8 => (some (x2, h8)))))) else none))
def f_X10_goEvening (F : Nat) (a1 : Int32) (h : PH) : Option (Int32 × PH) := (bnd (f_X10_holdsOf F a1 h) fun v1 h1 => (fL_X10_goEvening_11 F F a1 (0 : Int32) (0 : Int32) v1 h1))
def f_X10_tell (F : Nat) (a1 : Int32) (h : PH) : Option (Int32 × PH) := (bnd (f_X10_isClock F a1 h) fun v1 h1 => (if v1 = 0 then (some ((-1 : Int32), h1)) else (if (h1.1 102 2) = (9999 : Int32) then (some ((-3 : Int32), h1)) else (bnd (f_X10_goEvening F a1 h1) fun v4 h4 => (some (v4, h4))))))
def f_X10_isEvenings (F : Nat) (a1 : Int32) (h : PH) : Option (Int32 × PH) := (bnd (f_X10_in F a1 (0 : Int32) (60 : Int32) h) fun v1 h1 => (some ((v1 &&& 1), h1)))
def fL_X10_pass_28 (F : Nat) : Nat → Int32 → Int32 → PH → Option (Int32 × PH)
  | 0, _, _, _ => none
  | n + 1, x1, x2, h => (if x1 ≤ x2 then (some ((h.1 102 2), h)) else (bnd (f_X10_goNight F  h) fun v5 h5 => (fL_X10_pass_28 F n x1 (x2 + (1 : Int32)) h5)))
def f_X10_pass (F : Nat) (a1 : Int32) (h : PH) : Option (Int32 × PH) := (bnd (f_X10_isEvenings F a1 h) fun v1 h1 => (if v1 = 0 then (some ((-2 : Int32), h1)) else (if ((h1.1 102 2) + a1) ≤ (9999 : Int32) then (fL_X10_pass_28 F F a1 (0 : Int32) h1) else (some ((-3 : Int32), h1)))))
def fL_X10_left_9 (F : Nat) : Nat → Int32 → Int32 → Int32 → PH → Option (Int32 × PH)
  | 0, _, _, _, _ => none
  | n + 1, x1, x2, x3, h => (if (h.1 102 2) ≤ x3 then (some (x2, h)) else (bnd (f_X10_newsOf F x1 x3 h) fun v2 h2 => (fL_X10_left_9 F n x1 (x2 + v2) (x3 + (1 : Int32)) h2)))
def f_X10_left (F : Nat) (a1 : Int32) (h : PH) : Option (Int32 × PH) := (if inb a1 6 = true then (fL_X10_left_9 F F a1 (0 : Int32) (h.1 105 (ix a1)) h) else none)
def fL_X10_minded_22 (F : Nat) : Nat → Int32 → Int32 → PH → Option (Int32 × PH)
  | 0, _, _, _ => none
  | n + 1, x1, x2, h => (if (h.1 102 2) ≤ x2 then (some ((-5 : Int32), h)) else (bnd (f_X10_minds F x1 x2 h) fun v4 h4 => (if v4 = 0 then (fL_X10_minded_22 F n x1 (x2 + (1 : Int32)) h4) else (some (x2, h4)))))
def f_X10_minded (F : Nat) (a1 : Int32) (h : PH) : Option (Int32 × PH) := (bnd (f_X10_has F (h.1 102 1) a1 h) fun v1 h1 => (if v1 = 0 then (if inb a1 6 = true then (fL_X10_minded_22 F F a1 (h1.1 105 (ix a1)) h1) else none) else (some ((-5 : Int32), h1))))
def fL_X10_putBack_18 (F : Nat) : Nat → Int32 → PH → Option (Unit × PH)
  | 0, _, _ => none
  | n + 1, x1, h => (if (6 : Int32) ≤ x1 then (some ((), h)) else (if inb x1 6 = true then (if inb x1 6 = true then (lth (wI h 105 (ix x1) (h.1 119 (ix x1))) fun h4 => (fL_X10_putBack_18 F n (x1 + (1 : Int32)) h4)) else none) else none))
def f_X10_putBack (F : Nat)  (h : PH) : Option (Unit × PH) := (lth (wI h 102 1 (h.1 102 28)) fun h1 => (lth (wI h1 102 2 (h1.1 102 29)) fun h2 => (fL_X10_putBack_18 F F (0 : Int32) h2)))
def fL_X10_save_18 (F : Nat) : Nat → Int32 → PH → Option (Unit × PH)
  | 0, _, _ => none
  | n + 1, x1, h => (if (6 : Int32) ≤ x1 then (some ((), h)) else (if inb x1 6 = true then (if inb x1 6 = true then (lth (wI h 119 (ix x1) (h.1 105 (ix x1))) fun h4 => (fL_X10_save_18 F n (x1 + (1 : Int32)) h4)) else none) else none))
def f_X10_save (F : Nat)  (h : PH) : Option (Unit × PH) := (lth (wI h 102 28 (h.1 102 1)) fun h1 => (lth (wI h1 102 29 (h1.1 102 2)) fun h2 => (fL_X10_save_18 F F (0 : Int32) h2)))
def fL_X10_whole__6 (F : Nat) : Nat → Int32 → Int32 → PH → Option (Int32 × PH)
  | 0, _, _, _ => none
  | n + 1, x1, x2, h => (if (61 : Int32) ≤ x2 then (bnd (f_X10_putBack F  h) fun v3 h3 => (if (61 : Int32) ≤ x2 then (some ((-5 : Int32), h3)) else (some (x2, h3)))) else (bnd (f_X10_isUp F x1 h) fun v5 h5 => (if v5 = 0 then (bnd (f_X10_goEvening F x1 h5) fun v9 h9 => (fL_X10_whole__6 F n x1 (x2 + (1 : Int32)) h9)) else (bnd (f_X10_putBack F  h5) fun v7 h7 => (if (61 : Int32) ≤ x2 then (some ((-5 : Int32), h7)) else (some (x2, h7)))))))
def f_X10_whole_ (F : Nat) (a1 : Int32) (h : PH) : Option (Int32 × PH) := (bnd (f_X10_save F  h) fun v1 h1 => (fL_X10_whole__6 F F a1 (0 : Int32) h1))
def f_X10_of (F : Nat) (a1 : Int32) (a2 : Int32) (h : PH) : Option (Int32 × PH) := (bnd (f_X10_isClock F a1 h) fun v1 h1 => (if v1 = 0 then (some ((-1 : Int32), h1)) else (if a2 = (0 : Int32) then (if inb a1 6 = true then (some ((h1.1 103 (ix a1)), h1)) else none) else (if a2 = (1 : Int32) then (if inb a1 6 = true then (some ((h1.1 104 (ix a1)), h1)) else none) else (if a2 = (2 : Int32) then (if inb a1 6 = true then (some ((h1.1 105 (ix a1)), h1)) else none) else (if a2 = (3 : Int32) then (bnd (f_X10_has F (h1.1 102 1) a1 h1) fun v4 h4 => (if v4 = 0 then (some ((0 : Int32), h4)) else (some ((1 : Int32), h4)))) else (if a2 = (4 : Int32) then (bnd (f_X10_left F a1 h1) fun v6 h6 => (some (v6, h6))) else (if a2 = (5 : Int32) then (bnd (f_X10_holdsOf F a1 h1) fun v7 h7 => (some (v7, h7))) else (if a2 = (6 : Int32) then (bnd (f_X10_minded F a1 h1) fun v8 h8 => (some (v8, h8))) else (if a2 = (7 : Int32) then (bnd (f_X10_whole_ F a1 h1) fun v9 h9 => (some (v9, h9))) else (some ((-1 : Int32), h1))))))))))))
def fL_X10_allLeft_4 (F : Nat) : Nat → Int32 → Int32 → PH → Option (Int32 × PH)
  | 0, _, _, _ => none
  | n + 1, x1, x2, h => (if (h.1 102 0) ≤ x2 then (some (x1, h)) else (bnd (f_X10_left F x2 h) fun v2 h2 => (fL_X10_allLeft_4 F n (x1 + v2) (x2 + (1 : Int32)) h2)))
def f_X10_allLeft (F : Nat)  (h : PH) : Option (Int32 × PH) := (fL_X10_allLeft_4 F F (0 : Int32) (0 : Int32) h)
def fL_X10_upMany_4 (F : Nat) : Nat → Int32 → Int32 → PH → Option (Int32 × PH)
  | 0, _, _, _ => none
  | n + 1, x1, x2, h => (if (h.1 102 0) ≤ x2 then (some (x1, h)) else (bnd (f_X10_isUp F x2 h) fun v2 h2 => (if v2 = 0 then (fL_X10_upMany_4 F n (x1 + (0 : Int32)) (x2 + (1 : Int32)) h2) else (fL_X10_upMany_4 F n (x1 + (1 : Int32)) (x2 + (1 : Int32)) h2))))
def f_X10_upMany (F : Nat)  (h : PH) : Option (Int32 × PH) := (fL_X10_upMany_4 F F (0 : Int32) (0 : Int32) h)
def f_X10_told (F : Nat) (a1 : Int32) (h : PH) : Option (Int32 × PH) := (if a1 = (0 : Int32) then (some ((h.1 102 2), h)) else (if a1 = (1 : Int32) then (bnd (f_X10_pace F  h) fun v2 h2 => (some (v2, h2))) else (if a1 = (2 : Int32) then (bnd (f_X10_upMany F  h) fun v3 h3 => (some (v3, h3))) else (if a1 = (3 : Int32) then (bnd (f_X10_allLeft F  h) fun v4 h4 => (some (v4, h4))) else (some ((-1 : Int32), h))))))
def fL_X10_goEvenings_2 (F : Nat) : Nat → Int32 → Int32 → Int32 → PH → Option (Unit × PH)
  | 0, _, _, _, _ => none
  | n + 1, x1, x2, x3, h => (if x2 ≤ x3 then (some ((), h)) else (bnd (f_X10_goEvening F x1 h) fun v2 h2 => (fL_X10_goEvenings_2 F n x1 x2 (x3 + (1 : Int32)) h2)))
def f_X10_goEvenings (F : Nat) (a1 : Int32) (a2 : Int32) (h : PH) : Option (Unit × PH) := (fL_X10_goEvenings_2 F F a1 a2 (0 : Int32) h)
def f_X10_on (F : Nat) (a1 : Int32) (a2 : Int32) (a3 : Int32) (h : PH) : Option (Int32 × PH) := (bnd (f_X10_isClock F a1 h) fun v1 h1 => (if v1 = 0 then (some ((-1 : Int32), h1)) else (bnd (f_X10_in F a3 (0 : Int32) (2 : Int32) h1) fun v3 h3 => (if v3 = 0 then (some ((-1 : Int32), h3)) else (bnd (f_X10_isEvenings F a2 h3) fun v5 h5 => (if v5 = 0 then (some ((-2 : Int32), h5)) else (bnd (f_X10_save F  h5) fun v7 h7 => (bnd (f_X10_goEvenings F a1 a2 h7) fun v8 h8 => (if a3 = 0 then (if inb a1 6 = true then (bnd (f_X10_putBack F  h8) fun v17 h17 => (some ((h8.1 105 (ix a1)), h17))) else none) else (if a3 = (1 : Int32) then (bnd (f_X10_has F (h8.1 102 1) a1 h8) fun v13 h13 => (if v13 = 0 then (bnd (f_X10_putBack F  h13) fun v15 h15 => (some ((0 : Int32), h15))) else (bnd (f_X10_putBack F  h13) fun v16 h16 => (some ((1 : Int32), h16))))) else (bnd (f_X10_left F a1 h8) fun v11 h11 => (bnd (f_X10_putBack F  h11) fun v12 h12 => (some (v11, h12))))))))))))))
def fL_X10_goWhole_2 (F : Nat) : Nat → Int32 → Int32 → PH → Option (Int32 × PH)
  | 0, _, _, _ => none
  | n + 1, x1, x2, h => (if (20 : Int32) ≤ x2 then (some (x2, h)) else (bnd (f_X10_isUp F x1 h) fun v2 h2 => (if v2 = 0 then (bnd (f_X10_has F (h2.1 102 1) x1 h2) fun v4 h4 => (if v4 = 0 then (bnd (f_X10_goEvening F x1 h4) fun v6 h6 => (fL_X10_goWhole_2 F n x1 (x2 + (1 : Int32)) h6)) else (some (x2, h4)))) else (some (x2, h2)))))
def f_X10_goWhole (F : Nat) (a1 : Int32) (h : PH) : Option (Int32 × PH) := (fL_X10_goWhole_2 F F a1 (0 : Int32) h)
def fL_X10_goTurn_8 (F : Nat) : Nat → Int32 → Int32 → PH → Option (Int32 × PH)
  | 0, _, _, _ => none
  | n + 1, x1, x2, h => (if (h.1 102 0) ≤ x2 then (bnd (f_X10_putBack F  h) fun v3 h3 => (some (x1, h3))) else (if inb x2 6 = true then (bnd (f_X10_goWhole F (h.1 120 (ix x2)) h) fun v4 h4 => (fL_X10_goTurn_8 F n (x1 + v4) (x2 + (1 : Int32)) h4)) else none))
def f_X10_goTurn (F : Nat)  (h : PH) : Option (Int32 × PH) := (bnd (f_X10_save F  h) fun v1 h1 => (fL_X10_goTurn_8 F F (0 : Int32) (0 : Int32) h1))
def fL_X10_layNews_24 (F : Nat) (K62 : Int32 → PH → Option (Unit × PH)) : Nat → Int32 → Int32 → PH → Option (Unit × PH)
  | 0, _, _, _ => none
  | n + 1, x1, x2, h => (if (800 : Int32) ≤ x2 then (K62 x1 h) else (if inb x1 6 = true then (bnd (f_X10_newsNow F x1 ((h.1 105 (ix x1)) + x2) h) fun v5 h5 => (if inb (((800 : Int32) * x1) + x2) 4800 = true then (lth (wI h5 117 (ix (((800 : Int32) * x1) + x2)) v5) fun h6 => (fL_X10_layNews_24 F K62 n x1 (x2 + (1 : Int32)) h6)) else none)) else none))
def fL_X10_layNews_2 (F : Nat) : Nat → Int32 → PH → Option (Unit × PH)
  | 0, _, _ => none
  | n + 1, x1, h => (if (h.1 102 0) ≤ x1 then (lth (wI h 102 25 (1 : Int32)) fun h2 => (some ((), h2))) else (if inb x1 6 = true then (if inb x1 6 = true then (lth (wI h 118 (ix x1) (h.1 105 (ix x1))) fun h3 => (fL_X10_layNews_24 F (fun (x7 : Int32) (h8 : PH) => (fL_X10_layNews_2 F n (x7 + (1 : Int32)) h8)) F x1 (0 : Int32) h3)) else none) else none))
def f_X10_layNews (F : Nat)  (h : PH) : Option (Unit × PH) := (fL_X10_layNews_2 F F (0 : Int32) h)
def fL_X10_layTurn_12 (F : Nat) : Nat → Int32 → Int32 → Int32 → PH → Option (Int32 × PH)
  | 0, _, _, _, _ => none
  | n + 1, x2, x3, x4, h => (if x4 < 0 then (some ((1 : Int32), h)) else (if (6 : Int32) = 0 then none else (if inb x4 6 = true then (lth (wI h 120 (ix x4) (jrem x2 (6 : Int32))) fun h2 => (if (6 : Int32) = 0 then none else (if inb x4 6 = true then (if (h2.1 102 0) ≤ (h2.1 120 (ix x4)) then (some ((0 : Int32), h2)) else (if inb x4 6 = true then (bnd (f_X10_has F x3 (h2.1 120 (ix x4)) h2) fun v4 h4 => (if v4 = 0 then (if inb x4 6 = true then (fL_X10_layTurn_12 F n (x2 / (6 : Int32)) (x3 ||| ((1 : Int32) <<< ((h4.1 120 (ix x4)) &&& 31))) (x4 + (-1 : Int32)) h4) else none) else (some ((0 : Int32), h4)))) else none)) else none))) else none)))
def f_X10_layTurn (F : Nat) (a1 : Int32) (h : PH) : Option (Int32 × PH) := (fL_X10_layTurn_12 F F a1 (0 : Int32) ((h.1 102 0) - (1 : Int32)) h)
def fL_X10_soonest_87 (F : Nat) (K114 : Int32 → Int32 → Int32 → Int32 → PH → Option (Int32 × PH)) : Nat → Int32 → Int32 → Int32 → Int32 → Int32 → PH → Option (Int32 × PH)
  | 0, _, _, _, _, _, _ => none
  | n + 1, x1, x2, x3, x4, x6, h => (if (6 : Int32) ≤ x6 then (K114 x1 x2 x3 x4 h) else (if inb x6 6 = true then (if inb x6 6 = true then (lth (wI h 121 (ix x6) (h.1 120 (ix x6))) fun h14 => (fL_X10_soonest_87 F K114 n x1 x2 x3 x4 (x6 + (1 : Int32)) h14)) else none) else none))
def fL_X10_soonest_44 (F : Nat) : Nat → Int32 → Int32 → Int32 → Int32 → PH → Option (Int32 × PH)
  | 0, _, _, _, _, _ => none
  | n + 1, x1, x2, x3, x4, h => (if x2 ≤ x4 then (lth (wI h 102 25 (0 : Int32)) fun h6 => (if 0 ≤ x1 then (if (h6.1 102 0) ≤ x1 then (some ((-5 : Int32), h6)) else (if inb x1 6 = true then (some ((h6.1 121 (ix x1)), h6)) else none)) else (some (x3, h6)))) else (bnd (f_X10_layTurn F x4 h) fun v9 h9 => (if v9 = 0 then (fL_X10_soonest_44 F n x1 x2 x3 (x4 + (1 : Int32)) h9) else (bnd (f_X10_goTurn F  h9) fun v11 h11 => (if x3 < 0 then (fL_X10_soonest_87 F (fun (x15 : Int32) (x16 : Int32) (x17 : Int32) (x18 : Int32) (h19 : PH) => (fL_X10_soonest_44 F n x15 x16 x17 (x18 + (1 : Int32)) h19)) F x1 x2 v11 x4 (0 : Int32) h11) else (if v11 < x3 then (fL_X10_soonest_87 F (fun (x21 : Int32) (x22 : Int32) (x23 : Int32) (x24 : Int32) (h25 : PH) => (fL_X10_soonest_44 F n x21 x22 x23 (x24 + (1 : Int32)) h25)) F x1 x2 v11 x4 (0 : Int32) h11) else (fL_X10_soonest_44 F n x1 x2 x3 (x4 + (1 : Int32)) h11)))))))
def fL_X10_soonest_20 (F : Nat) : Nat → Int32 → Int32 → Int32 → PH → Option (Int32 × PH)
  | 0, _, _, _, _ => none
  | n + 1, x1, x2, x3, h => (if (h.1 102 0) ≤ x3 then (fL_X10_soonest_44 F F x1 x2 (-1 : Int32) (0 : Int32) h) else (fL_X10_soonest_20 F n x1 (x2 * (6 : Int32)) (x3 + (1 : Int32)) h))
def f_X10_soonest (F : Nat) (a1 : Int32) (h : PH) : Option (Int32 × PH) := (bnd (f_X10_in F a1 (-1 : Int32) (5 : Int32) h) fun v1 h1 => (if v1 = 0 then (some ((-1 : Int32), h1)) else (bnd (f_X10_layNews F  h1) fun v3 h3 => (fL_X10_soonest_20 F F a1 (1 : Int32) (0 : Int32) h3))))
def fL_X10_most_201 (F : Nat) : Nat → Int32 → Int32 → Int32 → Int32 → PH → Option (Int32 × PH)
  | 0, _, _, _, _, _ => none
  | n + 1, x1, x4, x6, x7, h => (if x1 ≤ x7 then (if x6 = 0 then none else (if (h.1 102 0) = 0 then none else (some ((jrem (x4 / x6) (h.1 102 0)), h)))) else (fL_X10_most_201 F n x1 x4 (x6 * (h.1 102 0)) (x7 + (1 : Int32)) h))
def fL_X10_most_93 (F : Nat) (K139 : Int32 → Int32 → Int32 → Int32 → Int32 → Int32 → PH → Option (Int32 × PH)) : Nat → Int32 → Int32 → Int32 → Int32 → Int32 → Int32 → Int32 → Int32 → PH → Option (Int32 × PH)
  | 0, _, _, _, _, _, _, _, _, _ => none
  | n + 1, x1, x2, x3, x4, x5, x6, x7, x8, h => (if x1 ≤ x8 then (K139 x1 x2 x3 x4 x5 x6 h) else (if x7 = 0 then none else (if (h.1 102 0) = 0 then none else (bnd (f_X10_goEvening F (jrem (x6 / x7) (h.1 102 0)) h) fun v15 h15 => (if x7 ≤ (1 : Int32) then (fL_X10_most_93 F K139 n x1 x2 x3 x4 x5 x6 (1 : Int32) (x8 + (1 : Int32)) h15) else (if (h15.1 102 0) = 0 then none else (fL_X10_most_93 F K139 n x1 x2 x3 x4 x5 x6 (x7 / (h15.1 102 0)) (x8 + (1 : Int32)) h15)))))))
def fL_X10_most_72 (F : Nat) : Nat → Int32 → Int32 → Int32 → Int32 → Int32 → Int32 → PH → Option (Int32 × PH)
  | 0, _, _, _, _, _, _, _ => none
  | n + 1, x1, x2, x3, x4, x5, x6, h => (if x3 ≤ x6 then (lth (wI h 102 25 (0 : Int32)) fun h9 => (if 0 ≤ x2 then (if x2 < x1 then (fL_X10_most_201 F F x1 x4 (1 : Int32) (x2 + (1 : Int32)) h9) else (some ((-5 : Int32), h9))) else (some (x5, h9)))) else (bnd (f_X10_save F  h) fun v13 h13 => (if (h13.1 102 0) = 0 then none else (fL_X10_most_93 F (fun (x17 : Int32) (x18 : Int32) (x19 : Int32) (x20 : Int32) (x21 : Int32) (x22 : Int32) (h23 : PH) => (bnd (f_X10_upMany F  h23) fun v24 h24 => (bnd (f_X10_putBack F  h24) fun v25 h25 => (if x21 < v24 then (fL_X10_most_72 F n x17 x18 x19 x22 v24 (x22 + (1 : Int32)) h25) else (fL_X10_most_72 F n x17 x18 x19 x20 x21 (x22 + (1 : Int32)) h25))))) F x1 x2 x3 x4 x5 x6 (x3 / (h13.1 102 0)) (0 : Int32) h13))))
def fL_X10_most_44 (F : Nat) : Nat → Int32 → Int32 → Int32 → Int32 → PH → Option (Int32 × PH)
  | 0, _, _, _, _, _ => none
  | n + 1, x1, x2, x3, x4, h => (if x1 ≤ x4 then (fL_X10_most_72 F F x1 x2 x3 (0 : Int32) (-1 : Int32) (0 : Int32) h) else (fL_X10_most_44 F n x1 x2 (x3 * (h.1 102 0)) (x4 + (1 : Int32)) h))
def f_X10_most (F : Nat) (a1 : Int32) (a2 : Int32) (h : PH) : Option (Int32 × PH) := (bnd (f_X10_in F a2 (-1 : Int32) (4 : Int32) h) fun v1 h1 => (if v1 = 0 then (some ((-1 : Int32), h1)) else (bnd (f_X10_in F a1 (1 : Int32) (5 : Int32) h1) fun v3 h3 => (if v3 = 0 then (some ((-2 : Int32), h3)) else (if (h3.1 102 0) = 0 then (some ((-5 : Int32), h3)) else (bnd (f_X10_layNews F  h3) fun v6 h6 => (fL_X10_most_44 F F a1 a2 (1 : Int32) (0 : Int32) h6)))))))
def fL_X10_next_7 (F : Nat) : Nat → Int32 → Int32 → Int32 → PH → Option (Int32 × PH)
  | 0, _, _, _, _ => none
  | n + 1, x1, x2, x3, h => (if (h.1 102 0) ≤ x3 then (some (x1, h)) else (bnd (f_X10_save F  h) fun v2 h2 => (bnd (f_X10_goEvening F x3 h2) fun v3 h3 => (bnd (f_X10_allLeft F  h3) fun v4 h4 => (bnd (f_X10_putBack F  h4) fun v5 h5 => (if x1 < 0 then (fL_X10_next_7 F n x3 v4 (x3 + (1 : Int32)) h5) else (if v4 < x2 then (fL_X10_next_7 F n x3 v4 (x3 + (1 : Int32)) h5) else (fL_X10_next_7 F n x1 x2 (x3 + (1 : Int32)) h5))))))))
def f_X10_next (F : Nat)  (h : PH) : Option (Int32 × PH) := (fL_X10_next_7 F F (-5 : Int32) (0 : Int32) (0 : Int32) h)
def f_X10_see (F : Nat) (a1 : Int32) (a2 : Int32) (a3 : Int32) (h : PH) : Option (Int32 × PH) := (if a1 = (-1 : Int32) then (lth (wI h 102 33 (0 : Int32)) fun h13 => (some ((0 : Int32), h13))) else (bnd (f_X10_isClock F a1 h) fun v2 h2 => (if v2 = 0 then (some ((-1 : Int32), h2)) else (bnd (f_X10_in F a2 (0 : Int32) (999 : Int32) h2) fun v4 h4 => (if v4 = 0 then (some ((-2 : Int32), h4)) else (bnd (f_X10_in F a3 (0 : Int32) (20 : Int32) h4) fun v6 h6 => (if v6 = 0 then (some ((-2 : Int32), h6)) else (if (h6.1 102 33) = (5 : Int32) then (some ((-4 : Int32), h6)) else (if inb (h6.1 102 33) 5 = true then (lth (wI h6 122 (ix (h6.1 102 33)) a1) fun h9 => (if inb (h9.1 102 33) 5 = true then (lth (wI h9 123 (ix (h9.1 102 33)) a2) fun h10 => (if inb (h10.1 102 33) 5 = true then (lth (wI h10 124 (ix (h10.1 102 33)) a3) fun h11 => (lth (wI h11 102 33 ((h11.1 102 33) + (1 : Int32))) fun h12 => (some ((h12.1 102 33), h12)))) else none)) else none)) else none)))))))))
def fL_X10_isSeen_4 (F : Nat) : Nat → Int32 → Int32 → Int32 → PH → Option (Int32 × PH)
  | 0, _, _, _, _ => none
  | n + 1, x1, x2, x3, h => (if (h.1 102 33) ≤ x3 then (some ((x2 &&& 1), h)) else (if x2 = 0 then (some ((x2 &&& 1), h)) else (if inb x3 5 = true then (if (h.1 122 (ix x3)) = x1 then (bnd (f_X10_save F  h) fun v4 h4 => (if inb x3 5 = true then (bnd (f_X10_goEvenings F x1 (h4.1 124 (ix x3)) h4) fun v5 h5 => (if inb x1 6 = true then (if inb x1 6 = true then (if inb x3 5 = true then (if ((h5.1 105 (ix x1)) - (h5.1 119 (ix x1))) = (h5.1 123 (ix x3)) then (bnd (f_X10_putBack F  h5) fun v8 h8 => (fL_X10_isSeen_4 F n x1 (1 : Int32) (x3 + (1 : Int32)) h8)) else (bnd (f_X10_putBack F  h5) fun v7 h7 => (fL_X10_isSeen_4 F n x1 (0 : Int32) (x3 + (1 : Int32)) h7))) else none) else none) else none)) else none)) else (fL_X10_isSeen_4 F n x1 x2 (x3 + (1 : Int32)) h)) else none)))
def f_X10_isSeen (F : Nat) (a1 : Int32) (h : PH) : Option (Int32 × PH) := (fL_X10_isSeen_4 F F a1 (1 : Int32) (0 : Int32) h)
def fL_X10_since_54 (F : Nat) : Nat → Int32 → Int32 → Int32 → Int32 → Int32 → Int32 → PH → Option (Int32 × PH)
  | 0, _, _, _, _, _, _, _ => none
  | n + 1, x1, x2, x3, x4, x5, x6, h => (if x6 < 0 then (if inb x1 6 = true then (lth (wI h 105 (ix x1) x3) fun h7 => (if x2 = 0 then (some (x4, h7)) else (some (x5, h7)))) else none) else (if inb x1 6 = true then (lth (wI h 105 (ix x1) ((h.1 102 2) - x6)) fun h9 => (bnd (f_X10_isSeen F x1 h9) fun v10 h10 => (if v10 = 0 then (fL_X10_since_54 F n x1 x2 x3 x4 x5 (x6 + (-1 : Int32)) h10) else (fL_X10_since_54 F n x1 x2 x3 (x4 + (1 : Int32)) x6 (x6 + (-1 : Int32)) h10)))) else none))
def f_X10_since (F : Nat) (a1 : Int32) (a2 : Int32) (h : PH) : Option (Int32 × PH) := (bnd (f_X10_isClock F a1 h) fun v1 h1 => (if v1 = 0 then (some ((-1 : Int32), h1)) else (bnd (f_X10_in F a2 (0 : Int32) (1 : Int32) h1) fun v3 h3 => (if v3 = 0 then (some ((-1 : Int32), h3)) else (if inb a1 6 = true then (if (99 : Int32) ≤ (h3.1 102 2) then (fL_X10_since_54 F F a1 a2 (h3.1 105 (ix a1)) (0 : Int32) (-5 : Int32) (99 : Int32) h3) else (fL_X10_since_54 F F a1 a2 (h3.1 105 (ix a1)) (0 : Int32) (-5 : Int32) (h3.1 102 2) h3)) else none)))))
def fL_X10_can_38 (F : Nat) : Nat → Int32 → Int32 → Int32 → Int32 → Int32 → Int32 → PH → Option (Int32 × PH)
  | 0, _, _, _, _, _, _, _ => none
  | n + 1, x1, x2, x3, x4, x5, x6, h => (if x6 < 0 then (if inb x1 6 = true then (lth (wI h 104 (ix x1) x3) fun h6 => (if x2 = 0 then (some (x4, h6)) else (some (x5, h6)))) else none) else (if inb x1 6 = true then (lth (wI h 104 (ix x1) x6) fun h8 => (bnd (f_X10_isSeen F x1 h8) fun v9 h9 => (if v9 = 0 then (fL_X10_can_38 F n x1 x2 x3 x4 x5 (x6 + (-1 : Int32)) h9) else (fL_X10_can_38 F n x1 x2 x3 (x4 + (1 : Int32)) x6 (x6 + (-1 : Int32)) h9)))) else none))
def f_X10_can (F : Nat) (a1 : Int32) (a2 : Int32) (h : PH) : Option (Int32 × PH) := (bnd (f_X10_isClock F a1 h) fun v1 h1 => (if v1 = 0 then (some ((-1 : Int32), h1)) else (bnd (f_X10_in F a2 (0 : Int32) (1 : Int32) h1) fun v3 h3 => (if v3 = 0 then (some ((-1 : Int32), h3)) else (if inb a1 6 = true then (fL_X10_can_38 F F a1 a2 (h3.1 104 (ix a1)) (0 : Int32) (-5 : Int32) (9 : Int32) h3) else none)))))
def fL_X10_divisor_5 (F : Nat) : Nat → Int32 → Int32 → PH → Option (Int32 × PH)
  | 0, _, _, _ => none
  | n + 1, x3, x4, h => (if x4 = 0 then (some (x3, h)) else (if x4 = 0 then none else (fL_X10_divisor_5 F n x4 (jrem x3 x4) h)))
def f_X10_divisor (F : Nat) (a1 : Int32) (a2 : Int32) (h : PH) : Option (Int32 × PH) := (fL_X10_divisor_5 F F a1 a2 h)
def f_X10_lowest (F : Nat) (a1 : Int32) (a2 : Int32) (a3 : Int32) (h : PH) : Option (Int64 × PH) := (bnd (f_X10_divisor F a1 a2 h) fun v1 h1 => (if a3 = 0 then (if v1 = 0 then none else (some (((a1 / v1).toInt64), h1))) else (if v1 = 0 then none else (some (((a2 / v1).toInt64), h1)))))
def fL_X10_odds_34 (F : Nat) : Nat → Int32 → Int32 → Int32 → Int32 → PH → Option (Int64 × PH)
  | 0, _, _, _, _, _ => none
  | n + 1, x1, x2, x3, x4, h => (if (h.1 102 0) ≤ x4 then (bnd (f_X10_lowest F x3 (h.1 102 0) x2 h) fun v7 h7 => (some (v7, h7))) else (bnd (f_X10_save F  h) fun v8 h8 => (bnd (f_X10_goEvenings F x4 x1 h8) fun v9 h9 => (bnd (f_X10_isUp F x4 h9) fun v10 h10 => (if v10 = 0 then (bnd (f_X10_putBack F  h10) fun v12 h12 => (fL_X10_odds_34 F n x1 x2 (x3 + (0 : Int32)) (x4 + (1 : Int32)) h12)) else (bnd (f_X10_putBack F  h10) fun v13 h13 => (fL_X10_odds_34 F n x1 x2 (x3 + (1 : Int32)) (x4 + (1 : Int32)) h13)))))))
def f_X10_odds (F : Nat) (a1 : Int32) (a2 : Int32) (h : PH) : Option (Int64 × PH) := (bnd (f_X10_isEvenings F a1 h) fun v1 h1 => (if v1 = 0 then (some ((-9223372036854775808 : Int64), h1)) else (bnd (f_X10_in F a2 (0 : Int32) (1 : Int32) h1) fun v3 h3 => (if v3 = 0 then (some ((-9223372036854775808 : Int64), h3)) else (if (h3.1 102 0) = 0 then (some ((-9223372036854775808 : Int64), h3)) else (fL_X10_odds_34 F F a1 a2 (0 : Int32) (0 : Int32) h3))))))
def f_X10_mean (F : Nat) (a1 : Int32) (h : PH) : Option (Int64 × PH) := (bnd (f_X10_in F a1 (0 : Int32) (1 : Int32) h) fun v1 h1 => (if v1 = 0 then (some ((-9223372036854775808 : Int64), h1)) else (if (h1.1 102 0) ≤ 0 then (some ((-9223372036854775808 : Int64), h1)) else (bnd (f_X10_allLeft F  h1) fun v4 h4 => (bnd (f_X10_lowest F v4 (h4.1 102 0) a1 h4) fun v5 h5 => (some (v5, h5)))))))
def fL_X10_month_28 (F : Nat) (x1 : Int32) (h : PH) : Option (Int32 × PH) := (if (h.1 102 37) = (10 : Int32) then (some ((-4 : Int32), h)) else (if inb (h.1 102 37) 10 = true then (lth (wI h 125 (ix (h.1 102 37)) x1) fun h4 => (lth (wI h4 102 37 ((h4.1 102 37) + (1 : Int32))) fun h5 => (some ((h5.1 102 37), h5)))) else none))
def f_X10_month (F : Nat) (a1 : Int32) (h : PH) : Option (Int32 × PH) := (if a1 = (-1 : Int32) then (lth (wI h 102 37 (0 : Int32)) fun h8 => (some ((0 : Int32), h8))) else (if a1 = (6 : Int32) then (fL_X10_month_28 F a1 h) else (bnd (f_X10_isClock F a1 h) fun v6 h6 => (if v6 = 0 then (some ((-1 : Int32), h6)) else (fL_X10_month_28 F a1 h6)))))
def fL_X10_ends_18 (F : Nat) : Nat → Int32 → Int32 → PH → Option (Int32 × PH)
  | 0, _, _, _ => none
  | n + 1, x1, x2, h => (if (h.1 102 37) ≤ x2 then (if x1 = 0 then (bnd (f_X10_upMany F  h) fun v8 h8 => (bnd (f_X10_putBack F  h8) fun v9 h9 => (some (v8, h9)))) else (bnd (f_X10_allLeft F  h) fun v6 h6 => (bnd (f_X10_putBack F  h6) fun v7 h7 => (some (v6, h7))))) else (if inb x2 10 = true then (if (h.1 125 (ix x2)) = (6 : Int32) then (bnd (f_X10_goNight F  h) fun v12 h12 => (fL_X10_ends_18 F n x1 (x2 + (1 : Int32)) h12)) else (if inb x2 10 = true then (bnd (f_X10_goEvening F (h.1 125 (ix x2)) h) fun v11 h11 => (fL_X10_ends_18 F n x1 (x2 + (1 : Int32)) h11)) else none)) else none))
def f_X10_ends (F : Nat) (a1 : Int32) (h : PH) : Option (Int32 × PH) := (bnd (f_X10_in F a1 (0 : Int32) (1 : Int32) h) fun v1 h1 => (if v1 = 0 then (some ((-1 : Int32), h1)) else (bnd (f_X10_save F  h1) fun v3 h3 => (fL_X10_ends_18 F F a1 (0 : Int32) h3))))
def f_X10_book (F : Nat) (a1 : Int32) (a2 : Int32) (h : PH) : Option (Int32 × PH) := (if a1 = (-1 : Int32) then (lth (wI h 102 38 (0 : Int32)) fun h10 => (some ((0 : Int32), h10))) else (bnd (f_X10_isClock F a1 h) fun v2 h2 => (if v2 = 0 then (some ((-1 : Int32), h2)) else (bnd (f_X10_isDay F a2 h2) fun v4 h4 => (if v4 = 0 then (some ((-2 : Int32), h4)) else (if (h4.1 102 38) = (8 : Int32) then (some ((-4 : Int32), h4)) else (if inb (h4.1 102 38) 8 = true then (lth (wI h4 126 (ix (h4.1 102 38)) a1) fun h7 => (if inb (h7.1 102 38) 8 = true then (lth (wI h7 127 (ix (h7.1 102 38)) a2) fun h8 => (lth (wI h8 102 38 ((h8.1 102 38) + (1 : Int32))) fun h9 => (some ((h9.1 102 38), h9)))) else none)) else none)))))))
def fL_X10_looked_2 (F : Nat) : Nat → Int32 → PH → Option (Int32 × PH)
  | 0, _, _ => none
  | n + 1, x1, h => (if (h.1 102 38) ≤ x1 then (some ((-5 : Int32), h)) else (if inb x1 8 = true then (if inb (h.1 126 (ix x1)) 6 = true then (if inb x1 8 = true then (if (h.1 105 (ix (h.1 126 (ix x1)))) = (h.1 127 (ix x1)) then (fL_X10_looked_2 F n (x1 + (1 : Int32)) h) else (some (x1, h))) else none) else none) else none))
def f_X10_looked (F : Nat)  (h : PH) : Option (Int32 × PH) := (fL_X10_looked_2 F F (0 : Int32) h)
def f_X10_isTape (F : Nat) (a1 : Int32) (h : PH) : Option (Int32 × PH) := (bnd (f_X10_in F a1 (0 : Int32) (5 : Int32) h) fun v1 h1 => (some ((v1 &&& 1), h1)))
def fL_X10_judge_34 (F : Nat) : Nat → Int32 → Int32 → Int32 → PH → Option (Int32 × PH)
  | 0, _, _, _, _ => none
  | n + 1, x1, x2, x3, h => (if (h.1 102 0) ≤ x3 then (some ((-5 : Int32), h)) else (if inb x1 6 = true then (if (h.1 139 (ix x1)) < 0 then (some (((100 : Int32) + x3), h)) else (if x2 < 0 then (some (((100 : Int32) + x3), h)) else (if inb x1 6 = true then (if x2 ≤ (((h.1 140 (ix x1)) - x3) - (1 : Int32)) then (if inb ((((60 : Int32) * x1) + x2) + x3) 360 = true then (if inb x3 6 = true then (if (lg_cmp (h.2.1 141 (ix ((((60 : Int32) * x1) + x2) + x3))) ((h.1 105 (ix x3)).toInt64)) = 0 then (fL_X10_judge_34 F n x1 x2 (x3 + (1 : Int32)) h) else (some (x3, h))) else none) else none) else (some (((100 : Int32) + x3), h))) else none))) else none))
def f_X10_judge (F : Nat) (a1 : Int32) (a2 : Int32) (h : PH) : Option (Int32 × PH) := (bnd (f_X10_isTape F a1 h) fun v1 h1 => (if v1 = 0 then (some ((-1 : Int32), h1)) else (if inb a1 6 = true then (if (h1.1 139 (ix a1)) < 0 then (fL_X10_judge_34 F F a1 a2 (0 : Int32) h1) else (if inb a1 6 = true then (if (h1.1 139 (ix a1)) = (1 : Int32) then (fL_X10_judge_34 F F a1 a2 (0 : Int32) h1) else (some ((-12 : Int32), h1))) else none)) else none)))
def fL_X10_image_214 (F : Nat) : Nat → Int32 → PH → Option (Int32 × PH)
  | 0, _, _ => none
  | n + 1, x1, h => (if (8 : Int32) ≤ x1 then (some ((h.1 102 0), h)) else (if inb x1 8 = true then (if inb x1 8 = true then (lth (wI h 136 (ix x1) (h.1 126 (ix x1))) fun h14 => (if inb x1 8 = true then (if inb x1 8 = true then (lth (wI h14 137 (ix x1) (h14.1 127 (ix x1))) fun h15 => (fL_X10_image_214 F n (x1 + (1 : Int32)) h15)) else none) else none)) else none) else none))
def fL_X10_image_188 (F : Nat) : Nat → Int32 → PH → Option (Int32 × PH)
  | 0, _, _ => none
  | n + 1, x1, h => (if (10 : Int32) ≤ x1 then (fL_X10_image_214 F F (0 : Int32) h) else (if inb x1 10 = true then (if inb x1 10 = true then (lth (wI h 135 (ix x1) (h.1 125 (ix x1))) fun h16 => (fL_X10_image_188 F n (x1 + (1 : Int32)) h16)) else none) else none))
def fL_X10_image_139 (F : Nat) : Nat → Int32 → PH → Option (Int32 × PH)
  | 0, _, _ => none
  | n + 1, x1, h => (if (5 : Int32) ≤ x1 then (fL_X10_image_188 F F (0 : Int32) h) else (if inb x1 5 = true then (if inb x1 5 = true then (lth (wI h 132 (ix x1) (h.1 122 (ix x1))) fun h17 => (if inb x1 5 = true then (if inb x1 5 = true then (lth (wI h17 133 (ix x1) (h17.1 123 (ix x1))) fun h18 => (if inb x1 5 = true then (if inb x1 5 = true then (lth (wI h18 134 (ix x1) (h18.1 124 (ix x1))) fun h19 => (fL_X10_image_139 F n (x1 + (1 : Int32)) h19)) else none) else none)) else none) else none)) else none) else none))
def fL_X10_image_113 (F : Nat) : Nat → Int32 → PH → Option (Int32 × PH)
  | 0, _, _ => none
  | n + 1, x1, h => (if (24 : Int32) ≤ x1 then (fL_X10_image_139 F F (0 : Int32) h) else (if inb x1 24 = true then (if inb x1 24 = true then (lth (wI h 131 (ix x1) (h.1 106 (ix x1))) fun h20 => (fL_X10_image_113 F n (x1 + (1 : Int32)) h20)) else none) else none))
def fL_X10_image_63 (F : Nat) : Nat → Int32 → PH → Option (Int32 × PH)
  | 0, _, _ => none
  | n + 1, x1, h => (if (6 : Int32) ≤ x1 then (fL_X10_image_113 F F (0 : Int32) h) else (if inb x1 6 = true then (if inb x1 6 = true then (lth (wI h 128 (ix x1) (h.1 103 (ix x1))) fun h21 => (if inb x1 6 = true then (if inb x1 6 = true then (lth (wI h21 129 (ix x1) (h21.1 104 (ix x1))) fun h22 => (if inb x1 6 = true then (if inb x1 6 = true then (lth (wI h22 130 (ix x1) (h22.1 105 (ix x1))) fun h23 => (fL_X10_image_63 F n (x1 + (1 : Int32)) h23)) else none) else none)) else none) else none)) else none) else none))
def f_X10_image (F : Nat)  (h : PH) : Option (Int32 × PH) := (lth (wI h 102 42 (1 : Int32)) fun h1 => (lth (wI h1 102 43 (h1.1 102 8)) fun h2 => (lth (wI h2 102 44 (h2.1 102 0)) fun h3 => (lth (wI h3 102 45 (h3.1 102 1)) fun h4 => (lth (wI h4 102 46 (h4.1 102 2)) fun h5 => (lth (wI h5 102 47 (h5.1 102 33)) fun h6 => (lth (wI h6 102 48 (h6.1 102 37)) fun h7 => (lth (wI h7 102 49 (h7.1 102 38)) fun h8 => (fL_X10_image_63 F F (0 : Int32) h8)))))))))
def fL_X10_undo_219 (F : Nat) : Nat → Int32 → PH → Option (Int32 × PH)
  | 0, _, _ => none
  | n + 1, x1, h => (if (8 : Int32) ≤ x1 then (some ((h.1 102 0), h)) else (if inb x1 8 = true then (if inb x1 8 = true then (lth (wI h 126 (ix x1) (h.1 136 (ix x1))) fun h14 => (if inb x1 8 = true then (if inb x1 8 = true then (lth (wI h14 127 (ix x1) (h14.1 137 (ix x1))) fun h15 => (fL_X10_undo_219 F n (x1 + (1 : Int32)) h15)) else none) else none)) else none) else none))
def fL_X10_undo_193 (F : Nat) : Nat → Int32 → PH → Option (Int32 × PH)
  | 0, _, _ => none
  | n + 1, x1, h => (if (10 : Int32) ≤ x1 then (fL_X10_undo_219 F F (0 : Int32) h) else (if inb x1 10 = true then (if inb x1 10 = true then (lth (wI h 125 (ix x1) (h.1 135 (ix x1))) fun h16 => (fL_X10_undo_193 F n (x1 + (1 : Int32)) h16)) else none) else none))
def fL_X10_undo_144 (F : Nat) : Nat → Int32 → PH → Option (Int32 × PH)
  | 0, _, _ => none
  | n + 1, x1, h => (if (5 : Int32) ≤ x1 then (fL_X10_undo_193 F F (0 : Int32) h) else (if inb x1 5 = true then (if inb x1 5 = true then (lth (wI h 122 (ix x1) (h.1 132 (ix x1))) fun h17 => (if inb x1 5 = true then (if inb x1 5 = true then (lth (wI h17 123 (ix x1) (h17.1 133 (ix x1))) fun h18 => (if inb x1 5 = true then (if inb x1 5 = true then (lth (wI h18 124 (ix x1) (h18.1 134 (ix x1))) fun h19 => (fL_X10_undo_144 F n (x1 + (1 : Int32)) h19)) else none) else none)) else none) else none)) else none) else none))
def fL_X10_undo_118 (F : Nat) : Nat → Int32 → PH → Option (Int32 × PH)
  | 0, _, _ => none
  | n + 1, x1, h => (if (24 : Int32) ≤ x1 then (fL_X10_undo_144 F F (0 : Int32) h) else (if inb x1 24 = true then (if inb x1 24 = true then (lth (wI h 106 (ix x1) (h.1 131 (ix x1))) fun h20 => (fL_X10_undo_118 F n (x1 + (1 : Int32)) h20)) else none) else none))
def fL_X10_undo_68 (F : Nat) : Nat → Int32 → PH → Option (Int32 × PH)
  | 0, _, _ => none
  | n + 1, x1, h => (if (6 : Int32) ≤ x1 then (fL_X10_undo_118 F F (0 : Int32) h) else (if inb x1 6 = true then (if inb x1 6 = true then (lth (wI h 103 (ix x1) (h.1 128 (ix x1))) fun h21 => (if inb x1 6 = true then (if inb x1 6 = true then (lth (wI h21 104 (ix x1) (h21.1 129 (ix x1))) fun h22 => (if inb x1 6 = true then (if inb x1 6 = true then (lth (wI h22 105 (ix x1) (h22.1 130 (ix x1))) fun h23 => (fL_X10_undo_68 F n (x1 + (1 : Int32)) h23)) else none) else none)) else none) else none)) else none) else none))
def f_X10_undo (F : Nat)  (h : PH) : Option (Int32 × PH) := (if (h.1 102 42) = 0 then (some ((-3 : Int32), h)) else (lth (wI h 102 8 (h.1 102 43)) fun h2 => (lth (wI h2 102 0 (h2.1 102 44)) fun h3 => (lth (wI h3 102 1 (h3.1 102 45)) fun h4 => (lth (wI h4 102 2 (h4.1 102 46)) fun h5 => (lth (wI h5 102 33 (h5.1 102 47)) fun h6 => (lth (wI h6 102 37 (h6.1 102 48)) fun h7 => (lth (wI h7 102 38 (h7.1 102 49)) fun h8 => (fL_X10_undo_68 F F (0 : Int32) h8)))))))))
def f_X10_body (F : Nat) (a1 : Int32) (h : PH) : Option (Unit × PH) := (if (20 : Int32) ≤ (h.1 102 60) then (lth (wI h 102 60 ((h.1 102 60) + (1 : Int32))) fun h2 => (some ((), h2))) else (if inb (h.1 102 60) 20 = true then (lth (wI h 138 (ix (h.1 102 60)) a1) fun h3 => (lth (wI h3 102 60 ((h3.1 102 60) + (1 : Int32))) fun h4 => (some ((), h4)))) else none))
def f_X10_clockTicks (F : Nat) (a1 : Int32) (a2 : Int32) (h : PH) : Option (Int32 × PH) := (bnd (f_X10_body F (10 : Int32) h) fun v1 h1 => (some ((a2 + a1), h1)))
def f_X10_ticksAct (F : Nat) (a1 : Int32) (a2 : Int32) (h : PH) : Option (Int32 × PH) := (if inb a1 6 = true then (if (h.1 103 (ix a1)) = (2 : Int32) then (bnd (f_X10_body F (30 : Int32) h) fun v2 h2 => (bnd (f_X10_clockTicks F a1 (a2 * (3 : Int32)) h2) fun v3 h3 => (some (v3, h3)))) else (if (h.1 103 (ix a1)) = (3 : Int32) then (bnd (f_X10_clockTicks F a1 a2 h) fun v4 h4 => (some (v4, h4))) else (if (h.1 103 (ix a1)) = (4 : Int32) then (bnd (f_X10_body F (50 : Int32) h) fun v5 h5 => (bnd (f_X10_clockTicks F a1 a2 h5) fun v6 h6 => (some ((-v6), h6)))) else (if (h.1 103 (ix a1)) = (5 : Int32) then (bnd (f_X10_body F (30 : Int32) h) fun v7 h7 => (bnd (f_X10_clockTicks F a1 (a2 * (3 : Int32)) h7) fun v8 h8 => (some (v8, h8)))) else (if (h.1 103 (ix a1)) = (6 : Int32) then (bnd (f_X10_body F (71 : Int32) h) fun v9 h9 => (bnd (f_X10_clockTicks F a1 a2 h9) fun v10 h10 => (if inb a1 6 = true then (some ((v10 ^^^ (h10.1 104 (ix a1))), h10)) else none))) else (bnd (f_X10_clockTicks F a1 a2 h) fun v11 h11 => (some (v11, h11)))))))) else none)
def f_X10_clockStrikes (F : Nat) (a1 : Int32) (a2 : Int32) (h : PH) : Option (Int32 × PH) := (bnd (f_X10_body F (11 : Int32) h) fun v1 h1 => (bnd (f_X10_ticksAct F a1 a2 h1) fun v2 h2 => (if inb a1 6 = true then (some ((v2 - (h2.1 104 (ix a1))), h2)) else none)))
def f_X10_fastStrikes (F : Nat) (a1 : Int32) (a2 : Int32) (h : PH) : Option (Int32 × PH) := (bnd (f_X10_body F (20 : Int32) h) fun v1 h1 => (bnd (f_X10_clockStrikes F a1 a2 h1) fun v2 h2 => (some ((v2 ^^^ (6 : Int32)), h2))))
def f_X10_strikesAct (F : Nat) (a1 : Int32) (a2 : Int32) (h : PH) : Option (Int32 × PH) := (if inb a1 6 = true then (if (h.1 103 (ix a1)) = (1 : Int32) then (bnd (f_X10_fastStrikes F a1 a2 h) fun v2 h2 => (some (v2, h2))) else (if (h.1 103 (ix a1)) = (4 : Int32) then (bnd (f_X10_body F (51 : Int32) h) fun v3 h3 => (bnd (f_X10_fastStrikes F a1 (a2 + (1 : Int32)) h3) fun v4 h4 => (some (v4, h4)))) else (if (h.1 103 (ix a1)) = (6 : Int32) then (bnd (f_X10_body F (70 : Int32) h) fun v5 h5 => (bnd (f_X10_clockStrikes F a1 a2 h5) fun v6 h6 => (bnd (f_X10_clockTicks F a1 (2 : Int32) h6) fun v7 h7 => (some ((v6 + v7), h7))))) else (bnd (f_X10_clockStrikes F a1 a2 h) fun v8 h8 => (some (v8, h8)))))) else none)
def f_X10_clockTells (F : Nat) (a1 : Int32) (a2 : Int32) (h : PH) : Option (Int32 × PH) := (bnd (f_X10_body F (12 : Int32) h) fun v1 h1 => (bnd (f_X10_strikesAct F a1 a2 h1) fun v2 h2 => (some ((v2 * (2 : Int32)), h2))))
def f_X10_tellsAct (F : Nat) (a1 : Int32) (a2 : Int32) (h : PH) : Option (Int32 × PH) := (if inb a1 6 = true then (if (h.1 103 (ix a1)) = (3 : Int32) then (bnd (f_X10_body F (40 : Int32) h) fun v2 h2 => (bnd (f_X10_clockTells F a1 a2 h2) fun v3 h3 => (bnd (f_X10_strikesAct F a1 (1 : Int32) h3) fun v4 h4 => (some ((v3 + v4), h4))))) else (if (h.1 103 (ix a1)) = (4 : Int32) then (bnd (f_X10_clockTells F a1 a2 h) fun v5 h5 => (some (v5, h5))) else (if (h.1 103 (ix a1)) = (5 : Int32) then (bnd (f_X10_body F (60 : Int32) h) fun v6 h6 => (bnd (f_X10_clockTells F a1 (a2 - a1) h6) fun v7 h7 => (some (v7, h7)))) else (if (h.1 103 (ix a1)) = (6 : Int32) then (bnd (f_X10_body F (40 : Int32) h) fun v8 h8 => (bnd (f_X10_clockTells F a1 a2 h8) fun v9 h9 => (bnd (f_X10_strikesAct F a1 (1 : Int32) h9) fun v10 h10 => (some ((v9 + v10), h10))))) else (bnd (f_X10_clockTells F a1 a2 h) fun v11 h11 => (some (v11, h11))))))) else none)
def f_X10_act (F : Nat) (a1 : Int32) (a2 : Int32) (a3 : Int32) (h : PH) : Option (Int32 × PH) := (lth (wI h 102 60 (0 : Int32)) fun h1 => (bnd (f_X10_isClock F a1 h1) fun v2 h2 => (if v2 = 0 then (some ((0 : Int32), h2)) else (bnd (f_X10_in F a2 (0 : Int32) (2 : Int32) h2) fun v4 h4 => (if v4 = 0 then (some ((0 : Int32), h4)) else (if a2 = 0 then (bnd (f_X10_ticksAct F a1 a3 h4) fun v10 h10 => (some (v10, h10))) else (if a2 = (1 : Int32) then (bnd (f_X10_strikesAct F a1 a3 h4) fun v9 h9 => (some (v9, h9))) else (bnd (f_X10_tellsAct F a1 a3 h4) fun v8 h8 => (some (v8, h8))))))))))
def f_X10_trace (F : Nat) (a1 : Int32) (h : PH) : Option (Int32 × PH) := (bnd (f_X10_in F a1 (0 : Int32) (19 : Int32) h) fun v1 h1 => (if v1 = 0 then (some ((-1 : Int32), h1)) else (if (h1.1 102 60) ≤ a1 then (some ((-1 : Int32), h1)) else (if inb a1 20 = true then (some ((h1.1 138 (ix a1)), h1)) else none))))
def fL_X10_taken_51 (F : Nat) (x2 : Int32) (x3 : Int32) (h : PH) : Option (Int32 × PH) := (if x2 = (2 : Int32) then (if x3 = (5 : Int32) then (some (x3, h)) else (if x2 = (3 : Int32) then (if x3 = (6 : Int32) then (some (x3, h)) else (some ((-12 : Int32), h))) else (some ((-12 : Int32), h)))) else (if x2 = (3 : Int32) then (if x3 = (6 : Int32) then (some (x3, h)) else (some ((-12 : Int32), h))) else (some ((-12 : Int32), h))))
def f_X10_taken (F : Nat) (a1 : Int32) (a2 : Int32) (h : PH) : Option (Int32 × PH) := (bnd (f_X10_in F a2 (0 : Int32) (6 : Int32) h) fun v1 h1 => (if v1 = 0 then (some ((-2 : Int32), h1)) else (bnd (f_X10_isClock F a1 h1) fun v3 h3 => (if v3 = 0 then (some ((-11 : Int32), h3)) else (if inb a1 6 = true then (if a2 = 0 then (some ((h3.1 103 (ix a1)), h3)) else (if (h3.1 103 (ix a1)) = a2 then (some ((h3.1 103 (ix a1)), h3)) else (if a2 = (1 : Int32) then (if (h3.1 103 (ix a1)) = (4 : Int32) then (some ((h3.1 103 (ix a1)), h3)) else (fL_X10_taken_51 F a2 (h3.1 103 (ix a1)) h3)) else (fL_X10_taken_51 F a2 (h3.1 103 (ix a1)) h3)))) else none)))))
def f_X10_count (F : Nat) (a1 : Int32) (h : PH) : Option (Int32 × PH) := (if a1 = (0 : Int32) then (some ((h.1 102 0), h)) else (if a1 = (1 : Int32) then (some ((h.1 102 7), h)) else (if a1 = (2 : Int32) then (some ((h.1 102 33), h)) else (if a1 = (3 : Int32) then (some ((h.1 102 37), h)) else (if a1 = (4 : Int32) then (some ((h.1 102 38), h)) else (if a1 = (5 : Int32) then (some ((h.1 102 9), h)) else (if a1 = (6 : Int32) then (some ((h.1 102 60), h)) else (some ((-2 : Int32), h)))))))))
def fL_X10_tape_69 (F : Nat) : Nat → Int32 → Int32 → PH → Option (Int32 × PH)
  | 0, _, _, _ => none
  | n + 1, x1, x4, h => (if (60 : Int32) ≤ x4 then (some ((1 : Int32), h)) else (if inb (((60 : Int32) * x1) + x4) 360 = true then (lth (wL h 141 (ix (((60 : Int32) * x1) + x4)) (0 : Int64)) fun h11 => (fL_X10_tape_69 F n x1 (x4 + (1 : Int32)) h11)) else none))
def fL_X10_tape_44 (F : Nat) (x1 : Int32) (x2 : Int32) (x3 : Int32) (h : PH) : Option (Int32 × PH) := (if inb x1 6 = true then (lth (wI h 139 (ix x1) x2) fun h7 => (if 0 ≤ x2 then (if inb x1 6 = true then (lth (wI h7 140 (ix x1) x3) fun h9 => (fL_X10_tape_69 F F x1 (0 : Int32) h9)) else none) else (if inb x1 6 = true then (lth (wI h7 140 (ix x1) (0 : Int32)) fun h12 => (fL_X10_tape_69 F F x1 (0 : Int32) h12)) else none))) else none)
def f_X10_tape (F : Nat) (a1 : Int32) (a2 : Int32) (a3 : Int32) (h : PH) : Option (Int32 × PH) := (bnd (f_X10_isTape F a1 h) fun v1 h1 => (if v1 = 0 then (some ((-1 : Int32), h1)) else (bnd (f_X10_in F a2 (-1 : Int32) (4 : Int32) h1) fun v3 h3 => (if v3 = 0 then (some ((-2 : Int32), h3)) else (if a2 < 0 then (if a2 < 0 then (fL_X10_tape_44 F a1 a2 a3 h3) else (if 0 ≤ a3 then (fL_X10_tape_44 F a1 a2 a3 h3) else (some ((-14 : Int32), h3)))) else (if a3 ≤ (60 : Int32) then (if a2 < 0 then (fL_X10_tape_44 F a1 a2 a3 h3) else (if 0 ≤ a3 then (fL_X10_tape_44 F a1 a2 a3 h3) else (some ((-14 : Int32), h3)))) else (some ((-2 : Int32), h3))))))))
def f_X10_narrow (F : Nat) (a1 : Int32) (a2 : Int64) (h : PH) : Option (Int64 × PH) := (if a1 = 0 then (some ((((a2.toInt32).toInt8.toInt32).toInt64), h)) else (if a1 = (1 : Int32) then (some ((((a2.toInt32).toInt16.toInt32).toInt64), h)) else (if a1 = (2 : Int32) then (some (((a2.toInt32).toInt64), h)) else (if a1 = (4 : Int32) then (if (lg_cmp a2 (0 : Int64)) = 0 then (some ((0 : Int64), h)) else (some ((1 : Int64), h))) else (some (a2, h))))))
def f_X10_item (F : Nat) (a1 : Int32) (a2 : Int32) (a3 : Int64) (h : PH) : Option (Int32 × PH) := (bnd (f_X10_isTape F a1 h) fun v1 h1 => (if v1 = 0 then (some ((-1 : Int32), h1)) else (if inb a1 6 = true then (if 0 ≤ (h1.1 139 (ix a1)) then (if inb a1 6 = true then (bnd (f_X10_in F a2 (0 : Int32) ((h1.1 140 (ix a1)) - (1 : Int32)) h1) fun v4 h4 => (if v4 = 0 then (some ((-13 : Int32), h4)) else (if inb a1 6 = true then (bnd (f_X10_narrow F (h4.1 139 (ix a1)) a3 h4) fun v6 h6 => (if inb (((60 : Int32) * a1) + a2) 360 = true then (lth (wL h6 141 (ix (((60 : Int32) * a1) + a2)) v6) fun h7 => (some ((1 : Int32), h7))) else none)) else none))) else none) else (some ((-11 : Int32), h1))) else none)))
def f_X10_read (F : Nat) (a1 : Int32) (a2 : Int32) (h : PH) : Option (Int64 × PH) := (bnd (f_X10_isTape F a1 h) fun v1 h1 => (if v1 = 0 then (some ((-9223372036854775808 : Int64), h1)) else (if inb a1 6 = true then (if (h1.1 139 (ix a1)) < 0 then (some ((-9223372036854775808 : Int64), h1)) else (if inb a1 6 = true then (bnd (f_X10_in F a2 (0 : Int32) ((h1.1 140 (ix a1)) - (1 : Int32)) h1) fun v4 h4 => (if v4 = 0 then (some ((-9223372036854775808 : Int64), h4)) else (if inb (((60 : Int32) * a1) + a2) 360 = true then (some ((h4.2.1 141 (ix (((60 : Int32) * a1) + a2))), h4)) else none))) else none)) else none)))
def fL_X10_shift_141 (F : Nat) : Nat → Int32 → Int32 → Int32 → Int32 → PH → Option (Int32 × PH)
  | 0, _, _, _, _, _ => none
  | n + 1, x3, x4, x5, x6, h => (if x5 ≤ x6 then (some (x5, h)) else (if inb x6 60 = true then (if inb ((((60 : Int32) * x3) + x4) + x6) 360 = true then (lth (wL h 141 (ix ((((60 : Int32) * x3) + x4) + x6)) (h.2.1 142 (ix x6))) fun h15 => (fL_X10_shift_141 F n x3 x4 x5 (x6 + (1 : Int32)) h15)) else none) else none))
def fL_X10_shift_104 (F : Nat) : Nat → Int32 → Int32 → Int32 → Int32 → Int32 → Int32 → PH → Option (Int32 × PH)
  | 0, _, _, _, _, _, _, _ => none
  | n + 1, x1, x2, x3, x4, x5, x6, h => (if x5 ≤ x6 then (fL_X10_shift_141 F F x3 x4 x5 (0 : Int32) h) else (if inb ((((60 : Int32) * x1) + x2) + x6) 360 = true then (if inb x6 60 = true then (lth (wL h 142 (ix x6) (h.2.1 141 (ix ((((60 : Int32) * x1) + x2) + x6)))) fun h16 => (fL_X10_shift_104 F n x1 x2 x3 x4 x5 (x6 + (1 : Int32)) h16)) else none) else none))
def f_X10_shift (F : Nat) (a1 : Int32) (a2 : Int32) (a3 : Int32) (a4 : Int32) (a5 : Int32) (h : PH) : Option (Int32 × PH) := (bnd (f_X10_isTape F a1 h) fun v1 h1 => (if v1 = 0 then (some ((-1 : Int32), h1)) else (bnd (f_X10_isTape F a3 h1) fun v3 h3 => (if v3 = 0 then (some ((-1 : Int32), h3)) else (if inb a1 6 = true then (if (h3.1 139 (ix a1)) < 0 then (some ((-11 : Int32), h3)) else (if inb a3 6 = true then (if 0 ≤ (h3.1 139 (ix a3)) then (if inb a1 6 = true then (if inb a3 6 = true then (if (h3.1 139 (ix a1)) = (h3.1 139 (ix a3)) then (if a5 < 0 then (some ((-13 : Int32), h3)) else (if a2 < 0 then (some ((-13 : Int32), h3)) else (if a4 < 0 then (some ((-13 : Int32), h3)) else (if inb a1 6 = true then (if ((h3.1 140 (ix a1)) - a5) < a2 then (some ((-13 : Int32), h3)) else (if inb a3 6 = true then (if a4 ≤ ((h3.1 140 (ix a3)) - a5) then (fL_X10_shift_104 F F a1 a2 a3 a4 a5 (0 : Int32) h3) else (some ((-13 : Int32), h3))) else none)) else none)))) else (some ((-12 : Int32), h3))) else none) else none) else (some ((-11 : Int32), h3))) else none)) else none)))))
end
section
set_option maxRecDepth 10000 in
theorem ok_X2_passes {V : Ev} {l : Launch} {o : PH} {F : Nat}  (hfx : V.2.2.2.2 = false) {a0 : Int32} {h : PH} : ∀ (v : Int32) (h' : PH), f_X2_passes F a0 h = some (v, h') → Ctr l V yX2_passes cX2_passes 4 (some .boolean) 1 [.int a0, rf V 15] 143 (WG V h o) 143 (WG V (h') o) (some (.int v)) 0 0 := by
  intro v h' hm
  refine Ctr.intro RX2 (by decide +kernel) rfl rfl rfl ?_
  intro E hE hQ _
  unfold f_X2_passes at hm
  refine q_aload_n hE 1 (dlX2_passes_0.at 0 rfl) rfl rfl ?_
  refine q_iload_n hE 0 (dlX2_passes_0.at 1 rfl) rfl rfl ?_
  refine q_sipush hE (dlX2_passes_0.at 2 rfl) sc_300 ?_
  refine q_idiv hE (dlX2_passes_0.at 3 rfl) hm (fun hm => ?_)
  refine q_iald hE (dlX2_passes_0.at 4 rfl) g15 rfl hm (fun hm => ?_)
  refine q_istore_n hE [(0, _), (1, _), (2, _)] (dlX2_passes_0.at 5 rfl) rfl rfl rfl ?_
  refine q_iload_n hE 0 (dlX2_passes_0.at 6 rfl) rfl rfl ?_
  refine q_bipush hE (dlX2_passes_0.at 7 rfl) bc_100 ?_
  refine q_irem hE (dlX2_passes_0.at 8 rfl) hm (fun hm => ?_)
  refine q_istore_n hE [(0, _), (1, _), (2, _), (3, _)] (dlX2_passes_0.at 9 rfl) rfl rfl rfl ?_
  refine q_iload_n hE 0 (dlX2_passes_0.at 10 rfl) rfl rfl ?_
  refine q_bipush hE (dlX2_passes_0.at 11 rfl) bc_100 ?_
  refine q_idiv hE (dlX2_passes_0.at 12 rfl) hm (fun hm => ?_)
  refine q_iconst hE (dlX2_passes_0.at 13 rfl) ic_3 ?_
  refine q_irem hE (dlX2_passes_0.at 14 rfl) hm (fun hm => ?_)
  refine q_lcase hE (dlX2_passes_0.at 15 rfl) (0 : Int32) 44 (by decide) hm (fun _ hm => ?_) (fun hn1_0 hm => ?_)
  · refine q_iload_n hE 2 (dlX2_passes_0.at 16 rfl) rfl rfl ?_
    refine q_iload_n hE 3 (dlX2_passes_0.at 17 rfl) rfl rfl ?_
    refine q_icmp_ge hE (tgt := 53) (dlX2_passes_0.at 18 rfl) (by decide) hm (fun hc2 hm => ?_) (fun hc2 hm => ?_)
    · refine q_iconst hE (dlX2_passes_0.at 21 rfl) ic_0 ?_
      exact q_bret (X := fun z => WG V z o) hE (dlX2_passes_0.at 22 rfl) hm hQ rfl (by decide)
    · refine q_iconst hE (dlX2_passes_0.at 19 rfl) ic_1 ?_
      refine q_goto hE (tgt := 54) (dlX2_passes_0.at 20 rfl) (by decide) ?_
      exact q_bret (X := fun z => WG V z o) hE (dlX2_passes_0.at 22 rfl) hm hQ rfl (by decide)
  · refine q_lcase hE (dlX2_passes_0.at 15 rfl) (1 : Int32) 55 (by decide) hm (fun _ hm => ?_) (fun hn1_1 hm => ?_)
    · refine q_iload_n hE 2 (dlX2_passes_0.at 23 rfl) rfl rfl ?_
      refine q_iload_n hE 3 (dlX2_passes_0.at 24 rfl) rfl rfl ?_
      refine q_icmp_ne hE (tgt := 64) (dlX2_passes_0.at 25 rfl) (by decide) hm (fun hc3 hm => ?_) (fun hc3 hm => ?_)
      · refine q_iconst hE (dlX2_passes_0.at 26 rfl) ic_1 ?_
        refine q_goto hE (tgt := 65) (dlX2_passes_0.at 27 rfl) (by decide) ?_
        exact q_bret (X := fun z => WG V z o) hE (dlX2_passes_0.at 29 rfl) hm hQ rfl (by decide)
      · refine q_iconst hE (dlX2_passes_0.at 28 rfl) ic_0 ?_
        exact q_bret (X := fun z => WG V z o) hE (dlX2_passes_0.at 29 rfl) hm hQ rfl (by decide)
    · refine q_ldef hE (tgt := 66) (dlX2_passes_0.at 15 rfl) (by decide) (by rw [lv_osw hn1_0 (by decide)]; rw [lv_osw hn1_1 (by decide)]; rfl) (by decide) ?_
      refine q_iload_n hE 2 (dlX2_passes_0.at 30 rfl) rfl rfl ?_
      refine q_iload_n hE 3 (dlX2_passes_0.at 31 rfl) rfl rfl ?_
      refine q_icmp_le hE (tgt := 75) (dlX2_passes_0.at 32 rfl) (by decide) hm (fun hc4 hm => ?_) (fun hc4 hm => ?_)
      · refine q_iconst hE (dlX2_passes_0.at 35 rfl) ic_0 ?_
        exact q_bret (X := fun z => WG V z o) hE (dlX2_passes_0.at 36 rfl) hm hQ rfl (by decide)
      · refine q_iconst hE (dlX2_passes_0.at 33 rfl) ic_1 ?_
        refine q_goto hE (tgt := 76) (dlX2_passes_0.at 34 rfl) (by decide) ?_
        exact q_bret (X := fun z => WG V z o) hE (dlX2_passes_0.at 36 rfl) hm hQ rfl (by decide)
set_option maxRecDepth 10000 in
theorem okL_X2_isTrue_6 {V : Ev} {l : Launch} {o : PH} {F : Nat}  (hfx : V.2.2.2.2 = false) {E : Cx} (hE : CX E V l cX2_isTrue RX2 7 2 0 0 (some .boolean)) {r : Int32 × PH} (hQ : RQ E V 143 (WG V r.2 o) (some (.int r.1)) 0 0) : ∀ (n : Nat) (x0 : Nat) (x2 : Int32) (x4 : Int32) (x5 : Int32) (h : PH), isBench x0 = true → fL_X2_isTrue_6 F n x0 x2 x4 x5 h = some r → PW E V 0 0 143 (WG V h o) 6 [(0, rf V x0), (2, .int x2), (3, rf V 15), (4, .int x4), (5, .int x5)] [] := by
  intro n
  induction n with
  | zero => intro x0 x2 x4 x5 h hx0 hm; cases hm
  | succ n ih =>
    intro x0 x2 x4 x5 h hx0 hm
    rw [fL_X2_isTrue_6] at hm
    refine q_iload hE 4 (dlX2_isTrue_0.at 4 rfl) rfl ?_
    refine q_iload_n hE 1 (dlX2_isTrue_0.at 5 rfl) rfl rfl ?_
    refine q_icmp_ge hE (tgt := 106) (dlX2_isTrue_0.at 6 rfl) (by decide) hm (fun hc1 hm => ?_) (fun hc1 hm => ?_)
    · refine q_iload hE 3 (dlX2_isTrue_1.at 18 rfl) rfl ?_
      refine q_iconst hE (dlX2_isTrue_1.at 19 rfl) ic_1 ?_
      refine q_iand hE (dlX2_isTrue_1.at 20 rfl) ?_
      refine q_iconst hE (dlX2_isTrue_1.at 21 rfl) ic_1 ?_
      refine q_icmp_ne hE (tgt := 118) (dlX2_isTrue_1.at 22 rfl) (by decide) hm (fun hc2 hm => ?_) (fun hc2 hm => ?_)
      · refine q_iconst hE (dlX2_isTrue_1.at 23 rfl) ic_1 ?_
        refine q_goto hE (tgt := 119) (dlX2_isTrue_1.at 24 rfl) (by decide) ?_
        exact q_bret (X := fun z => WG V z o) hE (dlX2_isTrue_1.at 26 rfl) hm hQ rfl (by decide)
      · refine q_iconst hE (dlX2_isTrue_1.at 25 rfl) ic_0 ?_
        exact q_bret (X := fun z => WG V z o) hE (dlX2_isTrue_1.at 26 rfl) hm hQ rfl (by decide)
    · refine q_aload_n hE 0 (dlX2_isTrue_0.at 7 rfl) rfl rfl ?_
      refine q_get hE (dlX2_isTrue_0.at 8 rfl) kc2 wf_X2_26 (g_Bench hx0) rfl (b_Bench hx0) rfl ?_
      refine q_iload hE 4 (dlX2_isTrue_0.at 9 rfl) rfl ?_
      refine q_iald hE (dlX2_isTrue_0.at 10 rfl) (g_Bench_steps hx0) (b_Bench_steps hx0) hm (fun hm => ?_)
      refine q_istore hE [(0, _), (2, _), (3, _), (4, _), (5, _), (6, _)] (dlX2_isTrue_0.at 11 rfl) rfl rfl ?_
      refine q_iload hE 5 (dlX2_isTrue_0.at 12 rfl) rfl ?_
      refine q_iconst hE (dlX2_isTrue_0.at 13 rfl) ic_m1 ?_
      refine q_icmp_ne hE (tgt := 36) (dlX2_isTrue_0.at 14 rfl) (by decide) hm (fun hc3 hm => ?_) (fun hc3 hm => ?_)
      · refine q_iload hE 3 (dlX2_isTrue_0.at 15 rfl) rfl ?_
        refine q_iconst hE (dlX2_isTrue_0.at 16 rfl) ic_1 ?_
        refine q_ixor hE (dlX2_isTrue_0.at 17 rfl) ?_
        refine q_istore hE [(0, _), (2, _), (3, _), (4, _), (5, _), (6, _)] (dlX2_isTrue_0.at 18 rfl) rfl rfl ?_
        refine q_goto hE (tgt := 100) (dlX2_isTrue_0.at 19 rfl) (by decide) ?_
        refine q_iinc hE [(0, _), (2, _), (3, _), (4, _), (5, _), (6, _)] 4 (dlX2_isTrue_1.at 16 rfl) rfl ic_1 rfl rfl ?_
        refine q_goto hE (tgt := 6) (dlX2_isTrue_1.at 17 rfl) (by decide) ?_
        refine q_sub hE [0, 1, 2, 3, 4] rfl ?_
        exact ih _ _ _ _ _ hx0 hm
      · refine q_iload hE 5 (dlX2_isTrue_0.at 20 rfl) rfl ?_
        refine q_bipush hE (dlX2_isTrue_0.at 21 rfl) bc_m2 ?_
        refine q_icmp_ne hE (tgt := 58) (dlX2_isTrue_0.at 22 rfl) (by decide) hm (fun hc4 hm => ?_) (fun hc4 hm => ?_)
        · refine q_iload hE 3 (dlX2_isTrue_0.at 23 rfl) rfl ?_
          refine q_iconst hE (dlX2_isTrue_0.at 24 rfl) ic_1 ?_
          refine q_ishr hE (dlX2_isTrue_0.at 25 rfl) ?_
          refine q_iload hE 3 (dlX2_isTrue_0.at 26 rfl) rfl ?_
          refine q_bipush hE (dlX2_isTrue_0.at 27 rfl) bc_m2 ?_
          refine q_ior hE (dlX2_isTrue_0.at 28 rfl) ?_
          refine q_iand hE (dlX2_isTrue_0.at 29 rfl) ?_
          refine q_istore hE [(0, _), (2, _), (3, _), (4, _), (5, _), (6, _)] (dlX2_isTrue_0.at 30 rfl) rfl rfl ?_
          refine q_goto hE (tgt := 100) (dlX2_isTrue_0.at 31 rfl) (by decide) ?_
          refine q_iinc hE [(0, _), (2, _), (3, _), (4, _), (5, _), (6, _)] 4 (dlX2_isTrue_1.at 16 rfl) rfl ic_1 rfl rfl ?_
          refine q_goto hE (tgt := 6) (dlX2_isTrue_1.at 17 rfl) (by decide) ?_
          refine q_sub hE [0, 1, 2, 3, 4] rfl ?_
          exact ih _ _ _ _ _ hx0 hm
        · refine q_iload hE 5 (dlX2_isTrue_0.at 32 rfl) rfl ?_
          refine q_bipush hE (dlX2_isTrue_0.at 33 rfl) bc_m3 ?_
          refine q_icmp_ne hE (tgt := 79) (dlX2_isTrue_0.at 34 rfl) (by decide) hm (fun hc5 hm => ?_) (fun hc5 hm => ?_)
          · refine q_iload hE 3 (dlX2_isTrue_0.at 35 rfl) rfl ?_
            refine q_iconst hE (dlX2_isTrue_0.at 36 rfl) ic_1 ?_
            refine q_ishr hE (dlX2_isTrue_0.at 37 rfl) ?_
            refine q_iload hE 3 (dlX2_isTrue_0.at 38 rfl) rfl ?_
            refine q_iconst hE (dlX2_isTrue_0.at 39 rfl) ic_1 ?_
            refine q_iand hE (dlX2_isTrue_1.at 0 rfl) ?_
            refine q_ior hE (dlX2_isTrue_1.at 1 rfl) ?_
            refine q_istore hE [(0, _), (2, _), (3, _), (4, _), (5, _), (6, _)] (dlX2_isTrue_1.at 2 rfl) rfl rfl ?_
            refine q_goto hE (tgt := 100) (dlX2_isTrue_1.at 3 rfl) (by decide) ?_
            refine q_iinc hE [(0, _), (2, _), (3, _), (4, _), (5, _), (6, _)] 4 (dlX2_isTrue_1.at 16 rfl) rfl ic_1 rfl rfl ?_
            refine q_goto hE (tgt := 6) (dlX2_isTrue_1.at 17 rfl) (by decide) ?_
            refine q_sub hE [0, 1, 2, 3, 4] rfl ?_
            exact ih _ _ _ _ _ hx0 hm
          · refine q_iload hE 3 (dlX2_isTrue_1.at 4 rfl) rfl ?_
            refine q_iconst hE (dlX2_isTrue_1.at 5 rfl) ic_1 ?_
            refine q_ishl hE (dlX2_isTrue_1.at 6 rfl) ?_
            refine q_iload hE 5 (dlX2_isTrue_1.at 7 rfl) rfl ?_
            refine q_aload_n hE 2 (dlX2_isTrue_1.at 8 rfl) rfl rfl ?_
            refine q_callS_i (X := fun z => WG V z o) hE (As := [_, _]) (dlX2_isTrue_1.at 9 rfl) mw_X2_passes wm_X2_39 rfl rfl rfl rfl (Nat.zero_le _) (Nat.zero_le _) rfl (ok_X2_passes hfx) hm (fun v6 h6 hm => ?_)
            refine q_if_eq hE (tgt := 96) (dlX2_isTrue_1.at 10 rfl) (by decide) hm (fun hc7 hm => ?_) (fun hc7 hm => ?_)
            · refine q_iconst hE (dlX2_isTrue_1.at 13 rfl) ic_0 ?_
              refine q_ior hE (dlX2_isTrue_1.at 14 rfl) ?_
              refine q_istore hE [(0, _), (2, _), (3, _), (4, _), (5, _), (6, _)] (dlX2_isTrue_1.at 15 rfl) rfl rfl ?_
              refine q_iinc hE [(0, _), (2, _), (3, _), (4, _), (5, _), (6, _)] 4 (dlX2_isTrue_1.at 16 rfl) rfl ic_1 rfl rfl ?_
              refine q_goto hE (tgt := 6) (dlX2_isTrue_1.at 17 rfl) (by decide) ?_
              refine q_sub hE [0, 1, 2, 3, 4] rfl ?_
              exact ih _ _ _ _ _ hx0 hm
            · refine q_iconst hE (dlX2_isTrue_1.at 11 rfl) ic_1 ?_
              refine q_goto hE (tgt := 97) (dlX2_isTrue_1.at 12 rfl) (by decide) ?_
              refine q_ior hE (dlX2_isTrue_1.at 14 rfl) ?_
              refine q_istore hE [(0, _), (2, _), (3, _), (4, _), (5, _), (6, _)] (dlX2_isTrue_1.at 15 rfl) rfl rfl ?_
              refine q_iinc hE [(0, _), (2, _), (3, _), (4, _), (5, _), (6, _)] 4 (dlX2_isTrue_1.at 16 rfl) rfl ic_1 rfl rfl ?_
              refine q_goto hE (tgt := 6) (dlX2_isTrue_1.at 17 rfl) (by decide) ?_
              refine q_sub hE [0, 1, 2, 3, 4] rfl ?_
              exact ih _ _ _ _ _ hx0 hm
set_option maxRecDepth 10000 in
theorem ok_X2_isTrue {V : Ev} {l : Launch} {o : PH} {F : Nat}  (hfx : V.2.2.2.2 = false) {t : Nat} {a1 : Int32} {a2 : Int32} {h : PH} : ∀ (v : Int32) (h' : PH), f_X2_isTrue F t a1 a2 h = some (v, h') → Ctr l V yX2_isTrue cX2_isTrue 7 (some .boolean) 2 [rf V t, .int a1, .int a2, rf V 15] 143 (WG V h o) 143 (WG V (h') o) (some (.int v)) 0 0 := by
  intro v h' hm
  refine Ctr.intro RX2 (by decide +kernel) rfl rfl rfl ?_
  intro E hE hQ _
  unfold f_X2_isTrue at hm
  obtain ⟨ht, hm⟩ := g_if hm
  refine q_iconst hE (dlX2_isTrue_0.at 0 rfl) ic_0 ?_
  refine q_istore hE [(0, _), (1, _), (2, _), (3, _), (4, _)] (dlX2_isTrue_0.at 1 rfl) rfl rfl ?_
  refine q_iload_n hE 1 (dlX2_isTrue_0.at 2 rfl) rfl rfl ?_
  refine q_istore hE [(0, _), (1, _), (2, _), (3, _), (4, _), (5, _)] (dlX2_isTrue_0.at 3 rfl) rfl rfl ?_
  refine q_sub hE [0, 2, 3, 4, 5] rfl ?_
  exact okL_X2_isTrue_6 hfx hE hQ  F _ _ _ _ _ ht hm
set_option maxRecDepth 10000 in
theorem okL_X2_newsBy_7 {V : Ev} {l : Launch} {o : PH} {F : Nat}  (hfx : V.2.2.2.2 = false) {E : Cx} (hE : CX E V l cX2_newsBy RX2 5 3 0 0 (some .int)) {r : Int32 × PH} (hQ : RQ E V 143 (WG V r.2 o) (some (.int r.1)) 0 0) : ∀ (n : Nat) (x0 : Nat) (x2 : Int32) (x3 : Int32) (x4 : Int32) (h : PH), isBench x0 = true → fL_X2_newsBy_7 F n x0 x2 x3 x4 h = some r → PW E V 0 0 143 (WG V h o) 7 [(0, rf V x0), (1, rf V 15), (2, .int x2), (3, .int x3), (4, .int x4)] [] := by
  intro n
  induction n with
  | zero => intro x0 x2 x3 x4 h hx0 hm; cases hm
  | succ n ih =>
    intro x0 x2 x3 x4 h hx0 hm
    rw [fL_X2_newsBy_7] at hm
    refine q_iload hE 4 (dlX2_newsBy_0.at 6 rfl) rfl ?_
    refine q_aload_n hE 0 (dlX2_newsBy_0.at 7 rfl) rfl rfl ?_
    refine q_get hE (dlX2_newsBy_0.at 8 rfl) kc2 wf_X2_13 (g_Bench hx0) rfl (b_Bench hx0) rfl ?_
    refine q_icmp_ge hE (tgt := 56) (dlX2_newsBy_0.at 9 rfl) (by decide) hm (fun hc1 hm => ?_) (fun hc1 hm => ?_)
    · refine q_iconst hE (dlX2_newsBy_0.at 33 rfl) ic_0 ?_
      refine q_iload_n hE 2 (dlX2_newsBy_0.at 34 rfl) rfl rfl ?_
      refine q_mmax hE (dlX2_newsBy_0.at 35 rfl) wm_X2_33 w_mmax rfl rfl (Nat.zero_le _) (Nat.zero_le _) ?_
      exact q_iret (X := fun z => WG V z o) hE (dlX2_newsBy_0.at 36 rfl) hm hQ rfl
    · refine q_aload_n hE 0 (dlX2_newsBy_0.at 10 rfl) rfl rfl ?_
      refine q_iload_n hE 3 (dlX2_newsBy_0.at 11 rfl) rfl rfl ?_
      refine q_aload_n hE 0 (dlX2_newsBy_0.at 12 rfl) rfl rfl ?_
      refine q_get hE (dlX2_newsBy_0.at 13 rfl) kc2 wf_X2_20 (g_Bench hx0) rfl (b_Bench hx0) rfl ?_
      refine q_iload hE 4 (dlX2_newsBy_0.at 14 rfl) rfl ?_
      refine q_iald hE (dlX2_newsBy_0.at 15 rfl) (g_Bench_ends hx0) (b_Bench_ends hx0) hm (fun hm => ?_)
      refine q_aload_n hE 1 (dlX2_newsBy_0.at 16 rfl) rfl rfl ?_
      refine q_callV_i (X := fun z => WG V z o) hE (As := [_, _, _]) (dlX2_newsBy_0.at 17 rfl) mw_X2_isTrue wm_X2_29 rfl rfl rfl rfl (Nat.zero_le _) (Nat.zero_le _) rfl kc2 (g_Bench hx0) (b_Bench hx0) (ok_X2_isTrue hfx) hm (fun v2 h2 hm => ?_)
      refine q_if_eq hE (tgt := 42) (dlX2_newsBy_0.at 18 rfl) (by decide) hm (fun hc3 hm => ?_) (fun hc3 hm => ?_)
      · refine q_aload_n hE 0 (dlX2_newsBy_0.at 26 rfl) rfl rfl ?_
        refine q_get hE (dlX2_newsBy_0.at 27 rfl) kc2 wf_X2_20 (g_Bench hx0) rfl (b_Bench hx0) rfl ?_
        refine q_iload hE 4 (dlX2_newsBy_0.at 28 rfl) rfl ?_
        refine q_iald hE (dlX2_newsBy_0.at 29 rfl) (g_Bench_ends hx0) (b_Bench_ends hx0) hm (fun hm => ?_)
        refine q_istore_n hE [(0, _), (1, _), (2, _), (3, _), (4, _)] (dlX2_newsBy_0.at 30 rfl) rfl rfl rfl ?_
        refine q_iinc hE [(0, _), (1, _), (2, _), (3, _), (4, _)] 4 (dlX2_newsBy_0.at 31 rfl) rfl ic_1 rfl rfl ?_
        refine q_goto hE (tgt := 7) (dlX2_newsBy_0.at 32 rfl) (by decide) ?_
        refine q_sub hE [0, 1, 2, 3, 4] rfl ?_
        exact ih _ _ _ _ _ hx0 hm
      · refine q_iload_n hE 2 (dlX2_newsBy_0.at 19 rfl) rfl rfl ?_
        refine q_aload_n hE 0 (dlX2_newsBy_0.at 20 rfl) rfl rfl ?_
        refine q_get hE (dlX2_newsBy_0.at 21 rfl) kc2 wf_X2_16 (g_Bench hx0) rfl (b_Bench hx0) rfl ?_
        refine q_iload hE 4 (dlX2_newsBy_0.at 22 rfl) rfl ?_
        refine q_iald hE (dlX2_newsBy_0.at 23 rfl) (g_Bench_weights hx0) (b_Bench_weights hx0) hm (fun hm => ?_)
        refine q_iadd hE (dlX2_newsBy_0.at 24 rfl) ?_
        refine q_istore_n hE [(0, _), (1, _), (2, _), (3, _), (4, _)] (dlX2_newsBy_0.at 25 rfl) rfl rfl rfl ?_
        refine q_aload_n hE 0 (dlX2_newsBy_0.at 26 rfl) rfl rfl ?_
        refine q_get hE (dlX2_newsBy_0.at 27 rfl) kc2 wf_X2_20 (g_Bench hx0) rfl (b_Bench hx0) rfl ?_
        refine q_iload hE 4 (dlX2_newsBy_0.at 28 rfl) rfl ?_
        refine q_iald hE (dlX2_newsBy_0.at 29 rfl) (g_Bench_ends hx0) (b_Bench_ends hx0) hm (fun hm => ?_)
        refine q_istore_n hE [(0, _), (1, _), (2, _), (3, _), (4, _)] (dlX2_newsBy_0.at 30 rfl) rfl rfl rfl ?_
        refine q_iinc hE [(0, _), (1, _), (2, _), (3, _), (4, _)] 4 (dlX2_newsBy_0.at 31 rfl) rfl ic_1 rfl rfl ?_
        refine q_goto hE (tgt := 7) (dlX2_newsBy_0.at 32 rfl) (by decide) ?_
        refine q_sub hE [0, 1, 2, 3, 4] rfl ?_
        exact ih _ _ _ _ _ hx0 hm
set_option maxRecDepth 10000 in
theorem ok_X2_newsBy {V : Ev} {l : Launch} {o : PH} {F : Nat}  (hfx : V.2.2.2.2 = false) {t : Nat} {h : PH} : ∀ (v : Int32) (h' : PH), f_X2_newsBy F t h = some (v, h') → Ctr l V yX2_newsBy cX2_newsBy 5 (some .int) 3 [rf V t, rf V 15] 143 (WG V h o) 143 (WG V (h') o) (some (.int v)) 0 0 := by
  intro v h' hm
  refine Ctr.intro RX2 (by decide +kernel) rfl rfl rfl ?_
  intro E hE hQ _
  unfold f_X2_newsBy at hm
  obtain ⟨ht, hm⟩ := g_if hm
  refine q_iconst hE (dlX2_newsBy_0.at 0 rfl) ic_1 ?_
  refine q_istore_n hE [(0, _), (1, _), (2, _)] (dlX2_newsBy_0.at 1 rfl) rfl rfl rfl ?_
  refine q_iconst hE (dlX2_newsBy_0.at 2 rfl) ic_0 ?_
  refine q_istore_n hE [(0, _), (1, _), (2, _), (3, _)] (dlX2_newsBy_0.at 3 rfl) rfl rfl rfl ?_
  refine q_iconst hE (dlX2_newsBy_0.at 4 rfl) ic_0 ?_
  refine q_istore hE [(0, _), (1, _), (2, _), (3, _), (4, _)] (dlX2_newsBy_0.at 5 rfl) rfl rfl ?_
  refine q_sub hE [0, 1, 2, 3, 4] rfl ?_
  exact okL_X2_newsBy_7 hfx hE hQ  F _ _ _ _ _ ht hm
set_option maxRecDepth 10000 in
theorem okL_X7_learn_100 {V : Ev} {l : Launch} {o : PH} {F : Nat} {K45 : Int32 → Int32 → PH → Option (Unit × PH)}  (hfx : V.2.2.2.2 = false) {E : Cx} (hE : CX E V l cX7_learn RX7 5 4 0 0 none) {r : Unit × PH} (hQ : RQ E V 143 (WG V r.2 o) (none) 0 0) (hK45 : ∀ (y2 : Int32) (y3 : Int32) (h : PH), K45 y2 y3 h = some r → PW E V 0 0 143 (WG V h o) 45 [(0, rf V 1), (2, .int y2), (3, .int y3)] []) : ∀ (x2 : Int32) (x3 : Int32) (xs0 : Int32) (h : PH), fL_X7_learn_100 F K45 x2 x3 xs0 h = some r → PW E V 0 0 143 (WG V h o) 100 [(0, rf V 1), (2, .int x2), (3, .int x3)] [.int xs0] := by
  intro x2 x3 xs0 h hm
  unfold fL_X7_learn_100 at hm
  refine q_istore hE [(0, _), (2, _), (3, _), (4, _)] (dlX7_learn_1.at 24 rfl) rfl rfl ?_
  refine q_aload_n hE 0 (dlX7_learn_1.at 25 rfl) rfl rfl ?_
  refine q_get hE (dlX7_learn_1.at 26 rfl) kc7 wf_X7_25 g1 rfl rfl rfl ?_
  refine q_iload_n hE 1 (dlX7_learn_1.at 27 rfl) rfl rfl ?_
  refine q_iload_n hE 2 (dlX7_learn_1.at 28 rfl) rfl rfl ?_
  refine q_iadd hE (dlX7_learn_1.at 29 rfl) ?_
  refine q_iconst hE (dlX7_learn_1.at 30 rfl) ic_1 ?_
  refine q_iadd hE (dlX7_learn_1.at 31 rfl) ?_
  refine q_aload_n hE 0 (dlX7_learn_1.at 32 rfl) rfl rfl ?_
  refine q_get hE (dlX7_learn_1.at 33 rfl) kc7 wf_X7_25 g1 rfl rfl rfl ?_
  refine q_iload_n hE 1 (dlX7_learn_1.at 34 rfl) rfl rfl ?_
  refine q_iload_n hE 2 (dlX7_learn_1.at 35 rfl) rfl rfl ?_
  refine q_iadd hE (dlX7_learn_1.at 36 rfl) ?_
  refine q_iald hE (dlX7_learn_1.at 37 rfl) g5 rfl hm (fun hm => ?_)
  refine q_iload hE 3 (dlX7_learn_1.at 38 rfl) rfl ?_
  refine q_iadd hE (dlX7_learn_1.at 39 rfl) ?_
  refine q_iast hE hfx (dlX7_learn_2.at 0 rfl) g5 rfl u5 hm (fun hm => ?_)
  refine q_lth (X := fun z => WG V z o) hm (fun h10 hm => ?_)
  refine q_iinc hE [(0, _), (2, _), (3, _), (4, _)] 2 (dlX7_learn_2.at 1 rfl) rfl ic_1 rfl rfl ?_
  refine q_goto hE (tgt := 45) (dlX7_learn_2.at 2 rfl) (by decide) ?_
  refine q_sub hE [0, 1, 2] rfl ?_
  exact hK45 _ _ _ hm
set_option maxRecDepth 10000 in
theorem okL_X7_learn_45 {V : Ev} {l : Launch} {o : PH} {F : Nat}  (hfx : V.2.2.2.2 = false) {E : Cx} (hE : CX E V l cX7_learn RX7 5 4 0 0 none) {r : Unit × PH} (hQ : RQ E V 143 (WG V r.2 o) (none) 0 0) : ∀ (n : Nat) (x2 : Int32) (x3 : Int32) (h : PH), fL_X7_learn_45 F n x2 x3 h = some r → PW E V 0 0 143 (WG V h o) 45 [(0, rf V 1), (2, .int x2), (3, .int x3)] [] := by
  intro n
  induction n with
  | zero => intro x2 x3 h hm; cases hm
  | succ n ih =>
    intro x2 x3 h hm
    rw [fL_X7_learn_45] at hm
    refine q_iload_n hE 2 (dlX7_learn_0.at 32 rfl) rfl rfl ?_
    refine q_bipush hE (dlX7_learn_0.at 33 rfl) bc_100 ?_
    refine q_icmp_ge hE (tgt := 129) (dlX7_learn_0.at 34 rfl) (by decide) hm (fun hc5 hm => ?_) (fun hc5 hm => ?_)
    · exact q_vret (X := fun z => WG V z o) hE (dlX7_learn_2.at 3 rfl) hm hQ rfl
    · refine q_aload_n hE 0 (dlX7_learn_0.at 35 rfl) rfl rfl ?_
      refine q_get hE (dlX7_learn_0.at 36 rfl) kc7 wf_X7_50 g1 rfl rfl rfl ?_
      refine q_iconst hE (dlX7_learn_0.at 37 rfl) ic_3 ?_
      refine q_iload_n hE 2 (dlX7_learn_0.at 38 rfl) rfl rfl ?_
      refine q_bipush hE (dlX7_learn_0.at 39 rfl) bc_10 ?_
      refine q_irem hE (dlX7_learn_1.at 0 rfl) hm (fun hm => ?_)
      refine q_iast hE hfx (dlX7_learn_1.at 1 rfl) g15 rfl u15 hm (fun hm => ?_)
      refine q_lth (X := fun z => WG V z o) hm (fun h6 hm => ?_)
      refine q_aload_n hE 0 (dlX7_learn_1.at 2 rfl) rfl rfl ?_
      refine q_get hE (dlX7_learn_1.at 3 rfl) kc7 wf_X7_50 g1 rfl rfl rfl ?_
      refine q_iconst hE (dlX7_learn_1.at 4 rfl) ic_4 ?_
      refine q_iload_n hE 2 (dlX7_learn_1.at 5 rfl) rfl rfl ?_
      refine q_bipush hE (dlX7_learn_1.at 6 rfl) bc_10 ?_
      refine q_idiv hE (dlX7_learn_1.at 7 rfl) hm (fun hm => ?_)
      refine q_iast hE hfx (dlX7_learn_1.at 8 rfl) g15 rfl u15 hm (fun hm => ?_)
      refine q_lth (X := fun z => WG V z o) hm (fun h7 hm => ?_)
      refine q_aload_n hE 0 (dlX7_learn_1.at 9 rfl) rfl rfl ?_
      refine q_get hE (dlX7_learn_1.at 10 rfl) kc7 wf_X7_50 g1 rfl rfl rfl ?_
      refine q_iconst hE (dlX7_learn_1.at 11 rfl) ic_5 ?_
      refine q_iload_n hE 2 (dlX7_learn_1.at 12 rfl) rfl rfl ?_
      refine q_iast hE hfx (dlX7_learn_1.at 13 rfl) g15 rfl u15 hm (fun hm => ?_)
      refine q_lth (X := fun z => WG V z o) hm (fun h8 hm => ?_)
      refine q_aload_n hE 0 (dlX7_learn_1.at 14 rfl) rfl rfl ?_
      refine q_get hE (dlX7_learn_1.at 15 rfl) kc7 wf_X7_53 g1 rfl rfl rfl ?_
      refine q_ifnonnullO hE (tgt := 89) (dlX7_learn_1.at 16 rfl) (by decide) hm (fun _ hm => ?_) (fun z9 _ hm => ?_)
      · refine q_iconst hE (dlX7_learn_1.at 17 rfl) ic_1 ?_
        refine q_goto hE (tgt := 100) (dlX7_learn_1.at 18 rfl) (by decide) ?_
        refine q_sub hE [0, 1, 2] rfl ?_
        exact okL_X7_learn_100 hfx hE hQ (fun x11 x12 h13  hm => by
              refine q_sub hE [0, 1, 2] rfl ?_
              exact ih _ _ _  hm) _ _ _ _  hm
      · refine q_aload_n hE 0 (dlX7_learn_1.at 19 rfl) rfl rfl ?_
        refine q_get hE (dlX7_learn_1.at 20 rfl) kc7 wf_X7_53 g1 rfl rfl rfl ?_
        refine q_deref hE hm (fun z14 hz14 hm => ?_)
        refine q_aload_n hE 0 (dlX7_learn_1.at 21 rfl) rfl rfl ?_
        refine q_get hE (dlX7_learn_1.at 22 rfl) kc7 wf_X7_50 g1 rfl rfl rfl ?_
        refine q_callVN_i (X := fun z => WG V z o) hE (As := [_]) (dlX7_learn_1.at 23 rfl) mw_X2_newsBy wm_X7_88 rfl rfl rfl rfl (Nat.zero_le _) (Nat.zero_le _) rfl kc2 (g_Bench hz14) (b_Bench hz14) (ok_X2_newsBy hfx) hm (fun v15 h15 hm => ?_)
        refine q_sub hE [0, 1, 2] rfl ?_
        exact okL_X7_learn_100 hfx hE hQ (fun x16 x17 h18  hm => by
              refine q_sub hE [0, 1, 2] rfl ?_
              exact ih _ _ _  hm) _ _ _ _  hm
set_option maxRecDepth 10000 in
theorem ok_X7_learn {V : Ev} {l : Launch} {o : PH} {F : Nat}  (hfx : V.2.2.2.2 = false) {a1 : Int32} {h : PH} : ∀ (v : Unit) (h' : PH), f_X7_learn F a1 h = some (v, h') → Ctr l V yX7_learn cX7_learn 5 none 4 [rf V 1, .int a1] 143 (WG V h o) 143 (WG V (h') o) (none) 0 0 := by
  intro v h' hm
  refine Ctr.intro RX7 (by decide +kernel) rfl rfl rfl ?_
  intro E hE hQ _
  unfold f_X7_learn at hm
  refine q_iload_n hE 1 (dlX7_learn_0.at 0 rfl) rfl rfl ?_
  refine q_bipush hE (dlX7_learn_0.at 1 rfl) bc_101 ?_
  refine q_imul hE (dlX7_learn_0.at 2 rfl) ?_
  refine q_istore_n hE [(0, _), (1, _), (2, _)] (dlX7_learn_0.at 3 rfl) rfl rfl rfl ?_
  refine q_aload_n hE 0 (dlX7_learn_0.at 4 rfl) rfl rfl ?_
  refine q_get hE (dlX7_learn_0.at 5 rfl) kc7 wf_X7_50 g1 rfl rfl rfl ?_
  refine q_iconst hE (dlX7_learn_0.at 6 rfl) ic_0 ?_
  refine q_iload_n hE 1 (dlX7_learn_0.at 7 rfl) rfl rfl ?_
  refine q_iast hE hfx (dlX7_learn_0.at 8 rfl) g15 rfl u15 hm (fun hm => ?_)
  refine q_lth (X := fun z => WG V z o) hm (fun h1 hm => ?_)
  refine q_aload_n hE 0 (dlX7_learn_0.at 9 rfl) rfl rfl ?_
  refine q_get hE (dlX7_learn_0.at 10 rfl) kc7 wf_X7_50 g1 rfl rfl rfl ?_
  refine q_iconst hE (dlX7_learn_0.at 11 rfl) ic_1 ?_
  refine q_aload_n hE 0 (dlX7_learn_0.at 12 rfl) rfl rfl ?_
  refine q_get hE (dlX7_learn_0.at 13 rfl) kc7 wf_X7_15 g1 rfl rfl rfl ?_
  refine q_iload_n hE 1 (dlX7_learn_0.at 14 rfl) rfl rfl ?_
  refine q_iald hE (dlX7_learn_0.at 15 rfl) g2 rfl hm (fun hm => ?_)
  refine q_iast hE hfx (dlX7_learn_0.at 16 rfl) g15 rfl u15 hm (fun hm => ?_)
  refine q_lth (X := fun z => WG V z o) hm (fun h2 hm => ?_)
  refine q_aload_n hE 0 (dlX7_learn_0.at 17 rfl) rfl rfl ?_
  refine q_get hE (dlX7_learn_0.at 18 rfl) kc7 wf_X7_50 g1 rfl rfl rfl ?_
  refine q_iconst hE (dlX7_learn_0.at 19 rfl) ic_2 ?_
  refine q_aload_n hE 0 (dlX7_learn_0.at 20 rfl) rfl rfl ?_
  refine q_get hE (dlX7_learn_0.at 21 rfl) kc7 wf_X7_19 g1 rfl rfl rfl ?_
  refine q_iload_n hE 1 (dlX7_learn_0.at 22 rfl) rfl rfl ?_
  refine q_iald hE (dlX7_learn_0.at 23 rfl) g3 rfl hm (fun hm => ?_)
  refine q_iast hE hfx (dlX7_learn_0.at 24 rfl) g15 rfl u15 hm (fun hm => ?_)
  refine q_lth (X := fun z => WG V z o) hm (fun h3 hm => ?_)
  refine q_aload_n hE 0 (dlX7_learn_0.at 25 rfl) rfl rfl ?_
  refine q_get hE (dlX7_learn_0.at 26 rfl) kc7 wf_X7_25 g1 rfl rfl rfl ?_
  refine q_iload_n hE 2 (dlX7_learn_0.at 27 rfl) rfl rfl ?_
  refine q_iconst hE (dlX7_learn_0.at 28 rfl) ic_0 ?_
  refine q_iast hE hfx (dlX7_learn_0.at 29 rfl) g5 rfl u5 hm (fun hm => ?_)
  refine q_lth (X := fun z => WG V z o) hm (fun h4 hm => ?_)
  refine q_iconst hE (dlX7_learn_0.at 30 rfl) ic_0 ?_
  refine q_istore_n hE [(0, _), (1, _), (2, _), (3, _)] (dlX7_learn_0.at 31 rfl) rfl rfl rfl ?_
  refine q_sub hE [0, 2, 3] rfl ?_
  exact okL_X7_learn_45 hfx hE hQ  F _ _ _  hm
set_option maxRecDepth 10000 in
theorem okL_X7_enter_65 {V : Ev} {l : Launch} {o : PH} {F : Nat}  (hfx : V.2.2.2.2 = false) {E : Cx} (hE : CX E V l cX7_enter RX7 6 5 0 0 (some .int)) {r : Int32 × PH} (hQ : RQ E V 143 (WG V r.2 o) (some (.int r.1)) 0 0) : ∀ (n : Nat) (x4 : Int32) (x5 : Int32) (h : PH), fL_X7_enter_65 F n x4 x5 h = some r → PW E V 0 0 143 (WG V h o) 65 [(0, rf V 1), (4, .int x4), (5, .int x5)] [] := by
  intro n
  induction n with
  | zero => intro x4 x5 h hm; cases hm
  | succ n ih =>
    intro x4 x5 h hm
    rw [fL_X7_enter_65] at hm
    refine q_iload hE 2 (dlX7_enter_0.at 37 rfl) rfl ?_
    refine q_iconst hE (dlX7_enter_0.at 38 rfl) ic_4 ?_
    refine q_icmp_ge hE (tgt := 90) (dlX7_enter_0.at 39 rfl) (by decide) hm (fun hc6 hm => ?_) (fun hc6 hm => ?_)
    · refine q_aload_n hE 0 (dlX7_enter_1.at 11 rfl) rfl rfl ?_
      refine q_iload hE 1 (dlX7_enter_1.at 12 rfl) rfl ?_
      refine q_callV_v (X := fun z => WG V z o) hE (As := [_]) (dlX7_enter_1.at 13 rfl) mw_X7_learn wm_X7_80 rfl rfl rfl rfl (Nat.zero_le _) (Nat.zero_le _) rfl kc7 g1 rfl (ok_X7_learn hfx) hm (fun v7 h7 hm => ?_)
      refine q_iload hE 1 (dlX7_enter_1.at 14 rfl) rfl ?_
      exact q_iret (X := fun z => WG V z o) hE (dlX7_enter_1.at 15 rfl) hm hQ rfl
    · refine q_aload_n hE 0 (dlX7_enter_1.at 0 rfl) rfl rfl ?_
      refine q_get hE (dlX7_enter_1.at 1 rfl) kc7 wf_X7_22 g1 rfl rfl rfl ?_
      refine q_iload hE 1 (dlX7_enter_1.at 2 rfl) rfl ?_
      refine q_iconst hE (dlX7_enter_1.at 3 rfl) ic_4 ?_
      refine q_imul hE (dlX7_enter_1.at 4 rfl) ?_
      refine q_iload hE 2 (dlX7_enter_1.at 5 rfl) rfl ?_
      refine q_iadd hE (dlX7_enter_1.at 6 rfl) ?_
      refine q_iconst hE (dlX7_enter_1.at 7 rfl) ic_0 ?_
      refine q_iast hE hfx (dlX7_enter_1.at 8 rfl) g4 rfl u4 hm (fun hm => ?_)
      refine q_lth (X := fun z => WG V z o) hm (fun h8 hm => ?_)
      refine q_iinc hE [(0, _), (4, _), (5, _)] 2 (dlX7_enter_1.at 9 rfl) rfl ic_1 rfl rfl ?_
      refine q_goto hE (tgt := 65) (dlX7_enter_1.at 10 rfl) (by decide) ?_
      refine q_sub hE [0, 1, 2] rfl ?_
      exact ih _ _ _  hm
set_option maxRecDepth 10000 in
theorem ok_X7_enter {V : Ev} {l : Launch} {o : PH} {F : Nat}  (hfx : V.2.2.2.2 = false) {a1 : Int32} {a2 : Int32} {a3 : Int32} {h : PH} : ∀ (v : Int32) (h' : PH), f_X7_enter F a1 a2 a3 h = some (v, h') → Ctr l V yX7_enter cX7_enter 6 (some .int) 5 [rf V 1, .int a1, .int a2, .int a3] 143 (WG V h o) 143 (WG V (h') o) (some (.int v)) 0 0 := by
  intro v h' hm
  refine Ctr.intro RX7 (by decide +kernel) rfl rfl rfl ?_
  intro E hE hQ _
  unfold f_X7_enter at hm
  refine q_aload_n hE 0 (dlX7_enter_0.at 0 rfl) rfl rfl ?_
  refine q_get hE (dlX7_enter_0.at 1 rfl) kc7 wf_X7_11 g1 rfl rfl rfl ?_
  refine q_istore hE [(0, _), (1, _), (2, _), (3, _), (4, _)] (dlX7_enter_0.at 2 rfl) rfl rfl ?_
  refine q_aload_n hE 0 (dlX7_enter_0.at 3 rfl) rfl rfl ?_
  refine q_dup hE (dlX7_enter_0.at 4 rfl) rfl ?_
  refine q_get hE (dlX7_enter_0.at 5 rfl) kc7 wf_X7_11 g1 rfl rfl rfl ?_
  refine q_iconst hE (dlX7_enter_0.at 6 rfl) ic_1 ?_
  refine q_iadd hE (dlX7_enter_0.at 7 rfl) ?_
  refine q_put hE hfx (dlX7_enter_0.at 8 rfl) kc7 wf_X7_11 g1 rfl rfl rfl rfl rfl rfl u1_0 ?_
  refine q_lth (X := fun z => WG V z o) hm (fun h1 hm => ?_)
  refine q_aload_n hE 0 (dlX7_enter_0.at 9 rfl) rfl rfl ?_
  refine q_get hE (dlX7_enter_0.at 10 rfl) kc7 wf_X7_15 g1 rfl rfl rfl ?_
  refine q_iload hE 4 (dlX7_enter_0.at 11 rfl) rfl ?_
  refine q_iload_n hE 1 (dlX7_enter_0.at 12 rfl) rfl rfl ?_
  refine q_iast hE hfx (dlX7_enter_0.at 13 rfl) g2 rfl u2 hm (fun hm => ?_)
  refine q_lth (X := fun z => WG V z o) hm (fun h2 hm => ?_)
  refine q_aload_n hE 0 (dlX7_enter_0.at 14 rfl) rfl rfl ?_
  refine q_get hE (dlX7_enter_0.at 15 rfl) kc7 wf_X7_19 g1 rfl rfl rfl ?_
  refine q_iload hE 4 (dlX7_enter_0.at 16 rfl) rfl ?_
  refine q_iload_n hE 2 (dlX7_enter_0.at 17 rfl) rfl rfl ?_
  refine q_iast hE hfx (dlX7_enter_0.at 18 rfl) g3 rfl u3 hm (fun hm => ?_)
  refine q_lth (X := fun z => WG V z o) hm (fun h3 hm => ?_)
  refine q_aload_n hE 0 (dlX7_enter_0.at 19 rfl) rfl rfl ?_
  refine q_get hE (dlX7_enter_0.at 20 rfl) kc7 wf_X7_31 g1 rfl rfl rfl ?_
  refine q_getN hE (dlX7_enter_0.at 21 rfl) kc3 wf_X7_70 g6 rfl rfl rfl ?_
  refine q_iload hE 4 (dlX7_enter_0.at 22 rfl) rfl ?_
  refine q_aload_n hE 0 (dlX7_enter_0.at 23 rfl) rfl rfl ?_
  refine q_get hE (dlX7_enter_0.at 24 rfl) kc7 wf_X7_31 g1 rfl rfl rfl ?_
  refine q_getN hE (dlX7_enter_0.at 25 rfl) kc3 wf_X7_73 g6 rfl rfl rfl ?_
  refine q_iload_n hE 3 (dlX7_enter_0.at 26 rfl) rfl rfl ?_
  refine q_isub hE (dlX7_enter_0.at 27 rfl) ?_
  refine q_iast hE hfx (dlX7_enter_0.at 28 rfl) g7 rfl u7 hm (fun hm => ?_)
  refine q_lth (X := fun z => WG V z o) hm (fun h4 hm => ?_)
  refine q_aload_n hE 0 (dlX7_enter_0.at 29 rfl) rfl rfl ?_
  refine q_get hE (dlX7_enter_0.at 30 rfl) kc7 wf_X7_31 g1 rfl rfl rfl ?_
  refine q_getN hE (dlX7_enter_0.at 31 rfl) kc3 wf_X7_76 g6 rfl rfl rfl ?_
  refine q_iload hE 4 (dlX7_enter_0.at 32 rfl) rfl ?_
  refine q_iconst hE (dlX7_enter_0.at 33 rfl) ic_0 ?_
  refine q_zast hE hfx (dlX7_enter_0.at 34 rfl) g8 rfl u8 hm (fun hm => ?_)
  refine q_lth (X := fun z => WG V z o) hm (fun h5 hm => ?_)
  refine q_iconst hE (dlX7_enter_0.at 35 rfl) ic_0 ?_
  refine q_istore hE [(0, _), (1, _), (2, _), (3, _), (4, _), (5, _)] (dlX7_enter_0.at 36 rfl) rfl rfl ?_
  refine q_sub hE [0, 4, 5] rfl ?_
  exact okL_X7_enter_65 hfx hE hQ  F _ _ _  hm
set_option maxRecDepth 10000 in
theorem ok_X9_within {V : Ev} {l : Launch} {o : PH} {F : Nat}  (hfx : V.2.2.2.2 = false) {a0 : Int32} {a1 : Int32} {a2 : Int32} {h : PH} : ∀ (v : Int32) (h' : PH), f_X9_within F a0 a1 a2 h = some (v, h') → Ctr l V yX9_within cX9_within 3 (some .boolean) 1 [.int a0, .int a1, .int a2] 143 (WG V h o) 143 (WG V (h') o) (some (.int v)) 0 0 := by
  intro v h' hm
  refine Ctr.intro RX9 (by decide +kernel) rfl rfl rfl ?_
  intro E hE hQ _
  unfold f_X9_within at hm
  refine q_iload_n hE 0 (dlX9_within_0.at 0 rfl) rfl rfl ?_
  refine q_iload_n hE 1 (dlX9_within_0.at 1 rfl) rfl rfl ?_
  refine q_icmp_lt hE (tgt := 14) (dlX9_within_0.at 2 rfl) (by decide) hm (fun hc1 hm => ?_) (fun hc1 hm => ?_)
  · refine q_iconst hE (dlX9_within_0.at 8 rfl) ic_0 ?_
    exact q_bret (X := fun z => WG V z o) hE (dlX9_within_0.at 9 rfl) hm hQ rfl (by decide)
  · refine q_iload_n hE 0 (dlX9_within_0.at 3 rfl) rfl rfl ?_
    refine q_iload_n hE 2 (dlX9_within_0.at 4 rfl) rfl rfl ?_
    refine q_icmp_gt hE (tgt := 14) (dlX9_within_0.at 5 rfl) (by decide) hm (fun hc2 hm => ?_) (fun hc2 hm => ?_)
    · refine q_iconst hE (dlX9_within_0.at 8 rfl) ic_0 ?_
      exact q_bret (X := fun z => WG V z o) hE (dlX9_within_0.at 9 rfl) hm hQ rfl (by decide)
    · refine q_iconst hE (dlX9_within_0.at 6 rfl) ic_1 ?_
      refine q_goto hE (tgt := 15) (dlX9_within_0.at 7 rfl) (by decide) ?_
      exact q_bret (X := fun z => WG V z o) hE (dlX9_within_0.at 9 rfl) hm hQ rfl (by decide)
set_option maxRecDepth 10000 in
theorem ok_X9_clock {V : Ev} {l : Launch} {o : PH} {F : Nat}  (hfx : V.2.2.2.2 = false) {a1 : Int32} {a2 : Int32} {a3 : Int32} {h : PH} : ∀ (v : Int32) (h' : PH), f_X9_clock F a1 a2 a3 h = some (v, h') → Ctr l V yX9_clock cX9_clock 4 (some .int) 6 [rf V 0, .int a1, .int a2, .int a3] 143 (WG V h o) 143 (WG V (h') o) (some (.int v)) 0 0 := by
  intro v h' hm
  refine Ctr.intro RX9 (by decide +kernel) rfl rfl rfl ?_
  intro E hE hQ _
  unfold f_X9_clock at hm
  refine q_iload_n hE 1 (dlX9_clock_0.at 0 rfl) rfl rfl ?_
  refine q_iconst hE (dlX9_clock_0.at 1 rfl) ic_0 ?_
  refine q_bipush hE (dlX9_clock_0.at 2 rfl) bc_6 ?_
  refine q_callS_i (X := fun z => WG V z o) hE (As := [_, _, _]) (dlX9_clock_0.at 3 rfl) mw_X9_within wm_X9_73 rfl rfl rfl rfl (Nat.zero_le _) (Nat.zero_le _) rfl (ok_X9_within hfx) hm (fun v1 h1 hm => ?_)
  refine q_if_ne hE (tgt := 12) (dlX9_clock_0.at 4 rfl) (by decide) hm (fun hc2 hm => ?_) (fun hc2 hm => ?_)
  · refine q_iconst hE (dlX9_clock_0.at 5 rfl) ic_m1 ?_
    exact q_iret (X := fun z => WG V z o) hE (dlX9_clock_0.at 6 rfl) hm hQ rfl
  · refine q_iload_n hE 2 (dlX9_clock_0.at 7 rfl) rfl rfl ?_
    refine q_iconst hE (dlX9_clock_0.at 8 rfl) ic_0 ?_
    refine q_bipush hE (dlX9_clock_0.at 9 rfl) bc_9 ?_
    refine q_callS_i (X := fun z => WG V z o) hE (As := [_, _, _]) (dlX9_clock_0.at 10 rfl) mw_X9_within wm_X9_73 rfl rfl rfl rfl (Nat.zero_le _) (Nat.zero_le _) rfl (ok_X9_within hfx) hm (fun v3 h3 hm => ?_)
    refine q_if_eq hE (tgt := 40) (dlX9_clock_0.at 11 rfl) (by decide) hm (fun hc4 hm => ?_) (fun hc4 hm => ?_)
    · refine q_bipush hE (dlX9_clock_0.at 20 rfl) bc_m2 ?_
      exact q_iret (X := fun z => WG V z o) hE (dlX9_clock_0.at 21 rfl) hm hQ rfl
    · refine q_iload_n hE 3 (dlX9_clock_0.at 12 rfl) rfl rfl ?_
      refine q_iconst hE (dlX9_clock_0.at 13 rfl) ic_0 ?_
      refine q_aload_n hE 0 (dlX9_clock_0.at 14 rfl) rfl rfl ?_
      refine q_get hE (dlX9_clock_0.at 15 rfl) kc9 wf_X9_12 g0 rfl rfl rfl ?_
      refine q_getN hE (dlX9_clock_0.at 16 rfl) kc7 wf_X9_77 g1 rfl rfl rfl ?_
      refine q_getN hE (dlX9_clock_0.at 17 rfl) kc3 wf_X9_81 g6 rfl rfl rfl ?_
      refine q_callS_i (X := fun z => WG V z o) hE (As := [_, _, _]) (dlX9_clock_0.at 18 rfl) mw_X9_within wm_X9_73 rfl rfl rfl rfl (Nat.zero_le _) (Nat.zero_le _) rfl (ok_X9_within hfx) hm (fun v5 h5 hm => ?_)
      refine q_if_ne hE (tgt := 43) (dlX9_clock_0.at 19 rfl) (by decide) hm (fun hc6 hm => ?_) (fun hc6 hm => ?_)
      · refine q_bipush hE (dlX9_clock_0.at 20 rfl) bc_m2 ?_
        exact q_iret (X := fun z => WG V z o) hE (dlX9_clock_0.at 21 rfl) hm hQ rfl
      · refine q_aload_n hE 0 (dlX9_clock_0.at 22 rfl) rfl rfl ?_
        refine q_get hE (dlX9_clock_0.at 23 rfl) kc9 wf_X9_12 g0 rfl rfl rfl ?_
        refine q_getN hE (dlX9_clock_0.at 24 rfl) kc7 wf_X9_86 g1 rfl rfl rfl ?_
        refine q_bipush hE (dlX9_clock_0.at 25 rfl) bc_6 ?_
        refine q_icmp_lt hE (tgt := 58) (dlX9_clock_0.at 26 rfl) (by decide) hm (fun hc7 hm => ?_) (fun hc7 hm => ?_)
        · refine q_aload_n hE 0 (dlX9_clock_0.at 29 rfl) rfl rfl ?_
          refine q_get hE (dlX9_clock_0.at 30 rfl) kc9 wf_X9_12 g0 rfl rfl rfl ?_
          refine q_iload_n hE 1 (dlX9_clock_0.at 31 rfl) rfl rfl ?_
          refine q_iload_n hE 2 (dlX9_clock_0.at 32 rfl) rfl rfl ?_
          refine q_iload_n hE 3 (dlX9_clock_0.at 33 rfl) rfl rfl ?_
          refine q_callVN_i (X := fun z => WG V z o) hE (As := [_, _, _]) (dlX9_clock_0.at 34 rfl) mw_X7_enter wm_X9_89 rfl rfl rfl rfl (Nat.zero_le _) (Nat.zero_le _) rfl kc7 g1 rfl (ok_X7_enter hfx) hm (fun v8 h8 hm => ?_)
          exact q_iret (X := fun z => WG V z o) hE (dlX9_clock_0.at 35 rfl) hm hQ rfl
        · refine q_bipush hE (dlX9_clock_0.at 27 rfl) bc_m4 ?_
          exact q_iret (X := fun z => WG V z o) hE (dlX9_clock_0.at 28 rfl) hm hQ rfl
set_option maxRecDepth 10000 in
theorem ok_X7_newsOf {V : Ev} {l : Launch} {o : PH} {F : Nat}  (hfx : V.2.2.2.2 = false) {a1 : Int32} {a2 : Int32} {h : PH} : ∀ (v : Int32) (h' : PH), f_X7_newsOf F a1 a2 h = some (v, h') → Ctr l V yX7_newsOf cX7_newsOf 4 (some .int) 1 [rf V 1, .int a1, .int a2] 143 (WG V h o) 143 (WG V (h') o) (some (.int v)) 0 0 := by
  intro v h' hm
  refine Ctr.intro RX7 (by decide +kernel) rfl rfl rfl ?_
  intro E hE hQ _
  unfold f_X7_newsOf at hm
  refine q_iload_n hE 1 (dlX7_newsOf_0.at 0 rfl) rfl rfl ?_
  refine q_bipush hE (dlX7_newsOf_0.at 1 rfl) bc_101 ?_
  refine q_imul hE (dlX7_newsOf_0.at 2 rfl) ?_
  refine q_iload_n hE 2 (dlX7_newsOf_0.at 3 rfl) rfl rfl ?_
  refine q_bipush hE (dlX7_newsOf_0.at 4 rfl) bc_100 ?_
  refine q_irem hE (dlX7_newsOf_0.at 5 rfl) hm (fun hm => ?_)
  refine q_iadd hE (dlX7_newsOf_0.at 6 rfl) ?_
  refine q_istore_n hE [(0, _), (1, _), (2, _), (3, _)] (dlX7_newsOf_0.at 7 rfl) rfl rfl rfl ?_
  refine q_aload_n hE 0 (dlX7_newsOf_0.at 8 rfl) rfl rfl ?_
  refine q_get hE (dlX7_newsOf_0.at 9 rfl) kc7 wf_X7_25 g1 rfl rfl rfl ?_
  refine q_iload_n hE 3 (dlX7_newsOf_0.at 10 rfl) rfl rfl ?_
  refine q_iconst hE (dlX7_newsOf_0.at 11 rfl) ic_1 ?_
  refine q_iadd hE (dlX7_newsOf_0.at 12 rfl) ?_
  refine q_iald hE (dlX7_newsOf_0.at 13 rfl) g5 rfl hm (fun hm => ?_)
  refine q_aload_n hE 0 (dlX7_newsOf_0.at 14 rfl) rfl rfl ?_
  refine q_get hE (dlX7_newsOf_0.at 15 rfl) kc7 wf_X7_25 g1 rfl rfl rfl ?_
  refine q_iload_n hE 3 (dlX7_newsOf_0.at 16 rfl) rfl rfl ?_
  refine q_iald hE (dlX7_newsOf_0.at 17 rfl) g5 rfl hm (fun hm => ?_)
  refine q_isub hE (dlX7_newsOf_0.at 18 rfl) ?_
  exact q_iret (X := fun z => WG V z o) hE (dlX7_newsOf_0.at 19 rfl) hm hQ rfl
set_option maxRecDepth 10000 in
theorem okL_X7_minds_19 {V : Ev} {l : Launch} {o : PH} {F : Nat}  (hfx : V.2.2.2.2 = false) {E : Cx} (hE : CX E V l cX7_minds RX7 5 2 0 0 (some .boolean)) {r : Int32 × PH} (hQ : RQ E V 143 (WG V r.2 o) (some (.int r.1)) 0 0) : ∀ (x1 : Int32) (x2 : Int32) (x3 : Int32) (h : PH), fL_X7_minds_19 F x1 x2 x3 h = some r → PW E V 0 0 143 (WG V h o) 19 [(0, rf V 1), (1, .int x1), (2, .int x2), (3, .int x3)] [] := by
  intro x1 x2 x3 h hm
  unfold fL_X7_minds_19 at hm
  refine q_aload_n hE 0 (dlX7_minds_0.at 13 rfl) rfl rfl ?_
  refine q_get hE (dlX7_minds_0.at 14 rfl) kc7 wf_X7_19 g1 rfl rfl rfl ?_
  refine q_iload_n hE 1 (dlX7_minds_0.at 15 rfl) rfl rfl ?_
  refine q_iald hE (dlX7_minds_0.at 16 rfl) g3 rfl hm (fun hm => ?_)
  refine q_istore hE [(0, _), (1, _), (2, _), (3, _), (4, _)] (dlX7_minds_0.at 17 rfl) rfl rfl ?_
  refine q_iload_n hE 3 (dlX7_minds_0.at 18 rfl) rfl rfl ?_
  refine q_iconst hE (dlX7_minds_0.at 19 rfl) ic_5 ?_
  refine q_icmp_ne hE (tgt := 43) (dlX7_minds_0.at 20 rfl) (by decide) hm (fun hc2 hm => ?_) (fun hc2 hm => ?_)
  · refine q_iload_n hE 2 (dlX7_minds_0.at 21 rfl) rfl rfl ?_
    refine q_iload hE 4 (dlX7_minds_0.at 22 rfl) rfl ?_
    refine q_iconst hE (dlX7_minds_0.at 23 rfl) ic_2 ?_
    refine q_iadd hE (dlX7_minds_0.at 24 rfl) ?_
    refine q_irem hE (dlX7_minds_0.at 25 rfl) hm (fun hm => ?_)
    refine q_if_ne hE (tgt := 43) (dlX7_minds_0.at 26 rfl) (by decide) hm (fun hc5 hm => ?_) (fun hc5 hm => ?_)
    · refine q_iconst hE (dlX7_minds_0.at 27 rfl) ic_0 ?_
      exact q_bret (X := fun z => WG V z o) hE (dlX7_minds_0.at 28 rfl) hm hQ rfl (by decide)
    · refine q_aload_n hE 0 (dlX7_minds_0.at 29 rfl) rfl rfl ?_
      refine q_iload_n hE 1 (dlX7_minds_0.at 30 rfl) rfl rfl ?_
      refine q_iload_n hE 2 (dlX7_minds_0.at 31 rfl) rfl rfl ?_
      refine q_callV_i (X := fun z => WG V z o) hE (As := [_, _]) (dlX7_minds_0.at 32 rfl) mw_X7_newsOf wm_X7_112 rfl rfl rfl rfl (Nat.zero_le _) (Nat.zero_le _) rfl kc7 g1 rfl (ok_X7_newsOf hfx) hm (fun v6 h6 hm => ?_)
      refine q_iload hE 4 (dlX7_minds_0.at 33 rfl) rfl ?_
      refine q_iconst hE (dlX7_minds_0.at 34 rfl) ic_3 ?_
      refine q_iadd hE (dlX7_minds_0.at 35 rfl) ?_
      refine q_icmp_le hE (tgt := 60) (dlX7_minds_0.at 36 rfl) (by decide) hm (fun hc7 hm => ?_) (fun hc7 hm => ?_)
      · refine q_iconst hE (dlX7_minds_0.at 39 rfl) ic_0 ?_
        exact q_bret (X := fun z => WG V z o) hE (dlX7_minds_1.at 0 rfl) hm hQ rfl (by decide)
      · refine q_iconst hE (dlX7_minds_0.at 37 rfl) ic_1 ?_
        refine q_goto hE (tgt := 61) (dlX7_minds_0.at 38 rfl) (by decide) ?_
        exact q_bret (X := fun z => WG V z o) hE (dlX7_minds_1.at 0 rfl) hm hQ rfl (by decide)
  · refine q_aload_n hE 0 (dlX7_minds_0.at 29 rfl) rfl rfl ?_
    refine q_iload_n hE 1 (dlX7_minds_0.at 30 rfl) rfl rfl ?_
    refine q_iload_n hE 2 (dlX7_minds_0.at 31 rfl) rfl rfl ?_
    refine q_callV_i (X := fun z => WG V z o) hE (As := [_, _]) (dlX7_minds_0.at 32 rfl) mw_X7_newsOf wm_X7_112 rfl rfl rfl rfl (Nat.zero_le _) (Nat.zero_le _) rfl kc7 g1 rfl (ok_X7_newsOf hfx) hm (fun v3 h3 hm => ?_)
    refine q_iload hE 4 (dlX7_minds_0.at 33 rfl) rfl ?_
    refine q_iconst hE (dlX7_minds_0.at 34 rfl) ic_3 ?_
    refine q_iadd hE (dlX7_minds_0.at 35 rfl) ?_
    refine q_icmp_le hE (tgt := 60) (dlX7_minds_0.at 36 rfl) (by decide) hm (fun hc4 hm => ?_) (fun hc4 hm => ?_)
    · refine q_iconst hE (dlX7_minds_0.at 39 rfl) ic_0 ?_
      exact q_bret (X := fun z => WG V z o) hE (dlX7_minds_1.at 0 rfl) hm hQ rfl (by decide)
    · refine q_iconst hE (dlX7_minds_0.at 37 rfl) ic_1 ?_
      refine q_goto hE (tgt := 61) (dlX7_minds_0.at 38 rfl) (by decide) ?_
      exact q_bret (X := fun z => WG V z o) hE (dlX7_minds_1.at 0 rfl) hm hQ rfl (by decide)
set_option maxRecDepth 10000 in
theorem ok_X7_minds {V : Ev} {l : Launch} {o : PH} {F : Nat}  (hfx : V.2.2.2.2 = false) {a1 : Int32} {a2 : Int32} {h : PH} : ∀ (v : Int32) (h' : PH), f_X7_minds F a1 a2 h = some (v, h') → Ctr l V yX7_minds cX7_minds 5 (some .boolean) 2 [rf V 1, .int a1, .int a2] 143 (WG V h o) 143 (WG V (h') o) (some (.int v)) 0 0 := by
  intro v h' hm
  refine Ctr.intro RX7 (by decide +kernel) rfl rfl rfl ?_
  intro E hE hQ _
  unfold f_X7_minds at hm
  refine q_aload_n hE 0 (dlX7_minds_0.at 0 rfl) rfl rfl ?_
  refine q_get hE (dlX7_minds_0.at 1 rfl) kc7 wf_X7_15 g1 rfl rfl rfl ?_
  refine q_iload_n hE 1 (dlX7_minds_0.at 2 rfl) rfl rfl ?_
  refine q_iald hE (dlX7_minds_0.at 3 rfl) g2 rfl hm (fun hm => ?_)
  refine q_istore_n hE [(0, _), (1, _), (2, _), (3, _)] (dlX7_minds_0.at 4 rfl) rfl rfl rfl ?_
  refine q_iload_n hE 3 (dlX7_minds_0.at 5 rfl) rfl rfl ?_
  refine q_iconst hE (dlX7_minds_0.at 6 rfl) ic_2 ?_
  refine q_icmp_eq hE (tgt := 19) (dlX7_minds_0.at 7 rfl) (by decide) hm (fun hc1 hm => ?_) (fun hc1 hm => ?_)
  · refine q_sub hE [0, 1, 2, 3] rfl ?_
    exact okL_X7_minds_19 hfx hE hQ  _ _ _ _  hm
  · refine q_iload_n hE 3 (dlX7_minds_0.at 8 rfl) rfl rfl ?_
    refine q_iconst hE (dlX7_minds_0.at 9 rfl) ic_5 ?_
    refine q_icmp_eq hE (tgt := 19) (dlX7_minds_0.at 10 rfl) (by decide) hm (fun hc8 hm => ?_) (fun hc8 hm => ?_)
    · refine q_sub hE [0, 1, 2, 3] rfl ?_
      exact okL_X7_minds_19 hfx hE hQ  _ _ _ _  hm
    · refine q_iconst hE (dlX7_minds_0.at 11 rfl) ic_0 ?_
      exact q_bret (X := fun z => WG V z o) hE (dlX7_minds_0.at 12 rfl) hm hQ rfl (by decide)
set_option maxRecDepth 10000 in
theorem okL_X1_minded_31 {V : Ev} {l : Launch} {o : PH} {F : Nat}  (hfx : V.2.2.2.2 = false) {E : Cx} (hE : CX E V l cX1_minded RX1 3 3 0 0 (some .int)) {r : Int32 × PH} (hQ : RQ E V 143 (WG V r.2 o) (some (.int r.1)) 0 0) : ∀ (n : Nat) (x1 : Int32) (x2 : Int32) (h : PH), fL_X1_minded_31 F n x1 x2 h = some r → PW E V 0 0 143 (WG V h o) 31 [(0, rf V 34), (1, .int x1), (2, .int x2)] [] := by
  intro n
  induction n with
  | zero => intro x1 x2 h hm; cases hm
  | succ n ih =>
    intro x1 x2 h hm
    rw [fL_X1_minded_31] at hm
    refine q_iload_n hE 2 (dlX1_minded_0.at 16 rfl) rfl rfl ?_
    refine q_aload_n hE 0 (dlX1_minded_0.at 17 rfl) rfl rfl ?_
    refine q_get hE (dlX1_minded_0.at 18 rfl) kc1 wf_X1_25 g34 rfl rfl rfl ?_
    refine q_getN hE (dlX1_minded_0.at 19 rfl) kc7 wf_X1_29 g1 rfl rfl rfl ?_
    refine q_getN hE (dlX1_minded_0.at 20 rfl) kc3 wf_X1_64 g6 rfl rfl rfl ?_
    refine q_icmp_ge hE (tgt := 65) (dlX1_minded_0.at 21 rfl) (by decide) hm (fun hc2 hm => ?_) (fun hc2 hm => ?_)
    · refine q_bipush hE (dlX1_minded_0.at 32 rfl) bc_m5 ?_
      exact q_iret (X := fun z => WG V z o) hE (dlX1_minded_0.at 33 rfl) hm hQ rfl
    · refine q_aload_n hE 0 (dlX1_minded_0.at 22 rfl) rfl rfl ?_
      refine q_get hE (dlX1_minded_0.at 23 rfl) kc1 wf_X1_25 g34 rfl rfl rfl ?_
      refine q_iload_n hE 1 (dlX1_minded_0.at 24 rfl) rfl rfl ?_
      refine q_iload_n hE 2 (dlX1_minded_0.at 25 rfl) rfl rfl ?_
      refine q_callVN_i (X := fun z => WG V z o) hE (As := [_, _]) (dlX1_minded_0.at 26 rfl) mw_X7_minds wm_X1_67 rfl rfl rfl rfl (Nat.zero_le _) (Nat.zero_le _) rfl kc7 g1 rfl (ok_X7_minds hfx) hm (fun v3 h3 hm => ?_)
      refine q_if_eq hE (tgt := 59) (dlX1_minded_0.at 27 rfl) (by decide) hm (fun hc4 hm => ?_) (fun hc4 hm => ?_)
      · refine q_iinc hE [(0, _), (1, _), (2, _)] 2 (dlX1_minded_0.at 30 rfl) rfl ic_1 rfl rfl ?_
        refine q_goto hE (tgt := 31) (dlX1_minded_0.at 31 rfl) (by decide) ?_
        refine q_sub hE [0, 1, 2] rfl ?_
        exact ih _ _ _  hm
      · refine q_iload_n hE 2 (dlX1_minded_0.at 28 rfl) rfl rfl ?_
        exact q_iret (X := fun z => WG V z o) hE (dlX1_minded_0.at 29 rfl) hm hQ rfl
set_option maxRecDepth 10000 in
theorem ok_X1_minded {V : Ev} {l : Launch} {o : PH} {F : Nat}  (hfx : V.2.2.2.2 = false) {a1 : Int32} {h : PH} : ∀ (v : Int32) (h' : PH), f_X1_minded F a1 h = some (v, h') → Ctr l V yX1_minded cX1_minded 3 (some .int) 3 [rf V 34, .int a1] 143 (WG V h o) 143 (WG V (h') o) (some (.int v)) 0 0 := by
  intro v h' hm
  refine Ctr.intro RX1 (by decide +kernel) rfl rfl rfl ?_
  intro E hE hQ _
  unfold f_X1_minded at hm
  refine q_aload_n hE 0 (dlX1_minded_0.at 0 rfl) rfl rfl ?_
  refine q_get hE (dlX1_minded_0.at 1 rfl) kc1 wf_X1_25 g34 rfl rfl rfl ?_
  refine q_getN hE (dlX1_minded_0.at 2 rfl) kc7 wf_X1_29 g1 rfl rfl rfl ?_
  refine q_getN hE (dlX1_minded_0.at 3 rfl) kc3 wf_X1_53 g6 rfl rfl rfl ?_
  refine q_iload_n hE 1 (dlX1_minded_0.at 4 rfl) rfl rfl ?_
  refine q_zald hE (dlX1_minded_0.at 5 rfl) g8 rfl hm (fun hm => ?_)
  refine q_if_eq hE (tgt := 18) (dlX1_minded_0.at 6 rfl) (by decide) hm (fun hc1 hm => ?_) (fun hc1 hm => ?_)
  · refine q_aload_n hE 0 (dlX1_minded_0.at 9 rfl) rfl rfl ?_
    refine q_get hE (dlX1_minded_0.at 10 rfl) kc1 wf_X1_25 g34 rfl rfl rfl ?_
    refine q_getN hE (dlX1_minded_0.at 11 rfl) kc7 wf_X1_29 g1 rfl rfl rfl ?_
    refine q_getN hE (dlX1_minded_0.at 12 rfl) kc3 wf_X1_49 g6 rfl rfl rfl ?_
    refine q_iload_n hE 1 (dlX1_minded_0.at 13 rfl) rfl rfl ?_
    refine q_iald hE (dlX1_minded_0.at 14 rfl) g7 rfl hm (fun hm => ?_)
    refine q_istore_n hE [(0, _), (1, _), (2, _)] (dlX1_minded_0.at 15 rfl) rfl rfl rfl ?_
    refine q_sub hE [0, 1, 2] rfl ?_
    exact okL_X1_minded_31 hfx hE hQ  F _ _ _  hm
  · refine q_bipush hE (dlX1_minded_0.at 7 rfl) bc_m5 ?_
    exact q_iret (X := fun z => WG V z o) hE (dlX1_minded_0.at 8 rfl) hm hQ rfl
set_option maxRecDepth 10000 in
theorem okL_X3_copyFrom_10 {V : Ev} {l : Launch} {o : PH} {F : Nat}  (hfx : V.2.2.2.2 = false) {E : Cx} (hE : CX E V l cX3_copyFrom RX3 3 1 0 0 none) {r : Unit × PH} (hQ : RQ E V 143 (WG V r.2 o) (none) 0 0) : ∀ (n : Nat) (x0 : Nat) (x1 : Nat) (x2 : Int32) (h : PH), isCourse x0 = true → isCourse x1 = true → fL_X3_copyFrom_10 F n x0 x1 x2 h = some r → PW E V 0 0 143 (WG V h o) 10 [(0, rf V x0), (1, rf V x1), (2, .int x2)] [] := by
  intro n
  induction n with
  | zero => intro x0 x1 x2 h hx0 hx1 hm; cases hm
  | succ n ih =>
    intro x0 x1 x2 h hx0 hx1 hm
    rw [fL_X3_copyFrom_10] at hm
    refine q_iload_n hE 2 (dlX3_copyFrom_0.at 6 rfl) rfl rfl ?_
    refine q_bipush hE (dlX3_copyFrom_0.at 7 rfl) bc_6 ?_
    refine q_icmp_ge hE (tgt := 46) (dlX3_copyFrom_0.at 8 rfl) (by decide) hm (fun hc2 hm => ?_) (fun hc2 hm => ?_)
    · exact q_vret (X := fun z => WG V z o) hE (dlX3_copyFrom_0.at 27 rfl) hm hQ rfl
    · refine q_aload_n hE 0 (dlX3_copyFrom_0.at 9 rfl) rfl rfl ?_
      refine q_get hE (dlX3_copyFrom_0.at 10 rfl) kc3 wf_X3_15 (g_Course hx0) rfl (b_Course hx0) rfl ?_
      refine q_iload_n hE 2 (dlX3_copyFrom_0.at 11 rfl) rfl rfl ?_
      refine q_aload_n hE 1 (dlX3_copyFrom_0.at 12 rfl) rfl rfl ?_
      refine q_get hE (dlX3_copyFrom_0.at 13 rfl) kc3 wf_X3_15 (g_Course hx1) rfl (b_Course hx1) rfl ?_
      refine q_iload_n hE 2 (dlX3_copyFrom_0.at 14 rfl) rfl rfl ?_
      refine q_iald hE (dlX3_copyFrom_0.at 15 rfl) (g_Course_heard hx1) (b_Course_heard hx1) hm (fun hm => ?_)
      refine q_iast hE hfx (dlX3_copyFrom_0.at 16 rfl) (g_Course_heard hx0) (b_Course_heard hx0) (u_Course_heard hx0) hm (fun hm => ?_)
      refine q_lth (X := fun z => WG V z o) hm (fun h3 hm => ?_)
      refine q_aload_n hE 0 (dlX3_copyFrom_0.at 17 rfl) rfl rfl ?_
      refine q_get hE (dlX3_copyFrom_0.at 18 rfl) kc3 wf_X3_19 (g_Course hx0) rfl (b_Course hx0) rfl ?_
      refine q_iload_n hE 2 (dlX3_copyFrom_0.at 19 rfl) rfl rfl ?_
      refine q_aload_n hE 1 (dlX3_copyFrom_0.at 20 rfl) rfl rfl ?_
      refine q_get hE (dlX3_copyFrom_0.at 21 rfl) kc3 wf_X3_19 (g_Course hx1) rfl (b_Course hx1) rfl ?_
      refine q_iload_n hE 2 (dlX3_copyFrom_0.at 22 rfl) rfl rfl ?_
      refine q_zald hE (dlX3_copyFrom_0.at 23 rfl) (g_Course_balks hx1) (b_Course_balks hx1) hm (fun hm => ?_)
      refine q_zast hE hfx (dlX3_copyFrom_0.at 24 rfl) (g_Course_balks hx0) (b_Course_balks hx0) (u_Course_balks hx0) hm (fun hm => ?_)
      refine q_lth (X := fun z => WG V z o) hm (fun h4 hm => ?_)
      refine q_iinc hE [(0, _), (1, _), (2, _)] 2 (dlX3_copyFrom_0.at 25 rfl) rfl ic_1 rfl rfl ?_
      refine q_goto hE (tgt := 10) (dlX3_copyFrom_0.at 26 rfl) (by decide) ?_
      refine q_sub hE [0, 1, 2] rfl ?_
      exact ih _ _ _ _ hx0 hx1 hm
set_option maxRecDepth 10000 in
theorem ok_X3_copyFrom {V : Ev} {l : Launch} {o : PH} {F : Nat}  (hfx : V.2.2.2.2 = false) {t : Nat} {a1 : Nat} {h : PH} : ∀ (v : Unit) (h' : PH), f_X3_copyFrom F t a1 h = some (v, h') → Ctr l V yX3_copyFrom cX3_copyFrom 3 none 1 [rf V t, rf V a1] 143 (WG V h o) 143 (WG V (h') o) (none) 0 0 := by
  intro v h' hm
  refine Ctr.intro RX3 (by decide +kernel) rfl rfl rfl ?_
  intro E hE hQ _
  unfold f_X3_copyFrom at hm
  obtain ⟨ht, hm⟩ := g_if hm
  obtain ⟨hp1, hm⟩ := g_if hm
  refine q_aload_n hE 0 (dlX3_copyFrom_0.at 0 rfl) rfl rfl ?_
  refine q_aload_n hE 1 (dlX3_copyFrom_0.at 1 rfl) rfl rfl ?_
  refine q_get hE (dlX3_copyFrom_0.at 2 rfl) kc3 wf_X3_9 (g_Course hp1) rfl (b_Course hp1) rfl ?_
  refine q_put hE hfx (dlX3_copyFrom_0.at 3 rfl) kc3 wf_X3_9 (g_Course ht) rfl rfl rfl rfl (b_Course ht) rfl (u_Course_0 ht) ?_
  refine q_lth (X := fun z => WG V z o) hm (fun h1 hm => ?_)
  refine q_iconst hE (dlX3_copyFrom_0.at 4 rfl) ic_0 ?_
  refine q_istore_n hE [(0, _), (1, _), (2, _)] (dlX3_copyFrom_0.at 5 rfl) rfl rfl rfl ?_
  refine q_sub hE [0, 1, 2] rfl ?_
  exact okL_X3_copyFrom_10 hfx hE hQ  F _ _ _ _ ht hp1 hm
set_option maxRecDepth 10000 in
theorem ok_X1_begin {V : Ev} {l : Launch} {o : PH} {F : Nat}  (hfx : V.2.2.2.2 = false)  {h : PH} : ∀ (v : Unit) (h' : PH), f_X1_begin F  h = some (v, h') → Ctr l V yX1_begin cX1_begin 1 none 2 [rf V 34] 143 (WG V h o) 143 (WG V (h') o) (none) 0 0 := by
  intro v h' hm
  refine Ctr.intro RX1 (by decide +kernel) rfl rfl rfl ?_
  intro E hE hQ _
  unfold f_X1_begin at hm
  refine q_aload_n hE 0 (dlX1_begin_0.at 0 rfl) rfl rfl ?_
  refine q_get hE (dlX1_begin_0.at 1 rfl) kc1 wf_X1_12 g34 rfl rfl rfl ?_
  refine q_aload_n hE 0 (dlX1_begin_0.at 2 rfl) rfl rfl ?_
  refine q_get hE (dlX1_begin_0.at 3 rfl) kc1 wf_X1_25 g34 rfl rfl rfl ?_
  refine q_getN hE (dlX1_begin_0.at 4 rfl) kc7 wf_X1_29 g1 rfl rfl rfl ?_
  refine q_callVN_v (X := fun z => WG V z o) hE (As := [_]) (dlX1_begin_0.at 5 rfl) mw_X3_copyFrom wm_X1_34 rfl rfl rfl rfl (Nat.zero_le _) (Nat.zero_le _) rfl kc3 g35 rfl (ok_X3_copyFrom hfx) hm (fun v1 h1 hm => ?_)
  exact q_vret (X := fun z => WG V z o) hE (dlX1_begin_0.at 6 rfl) hm hQ rfl
set_option maxRecDepth 10000 in
theorem ok_X3_isUp {V : Ev} {l : Launch} {o : PH} {F : Nat}  (hfx : V.2.2.2.2 = false) {t : Nat} {a1 : Int32} {h : PH} : ∀ (v : Int32) (h' : PH), f_X3_isUp F t a1 h = some (v, h') → Ctr l V yX3_isUp cX3_isUp 2 (some .boolean) 1 [rf V t, .int a1] 143 (WG V h o) 143 (WG V (h') o) (some (.int v)) 0 0 := by
  intro v h' hm
  refine Ctr.intro RX3 (by decide +kernel) rfl rfl rfl ?_
  intro E hE hQ _
  unfold f_X3_isUp at hm
  obtain ⟨ht, hm⟩ := g_if hm
  refine q_aload_n hE 0 (dlX3_isUp_0.at 0 rfl) rfl rfl ?_
  refine q_get hE (dlX3_isUp_0.at 1 rfl) kc3 wf_X3_15 (g_Course ht) rfl (b_Course ht) rfl ?_
  refine q_iload_n hE 1 (dlX3_isUp_0.at 2 rfl) rfl rfl ?_
  refine q_iald hE (dlX3_isUp_0.at 3 rfl) (g_Course_heard ht) (b_Course_heard ht) hm (fun hm => ?_)
  refine q_aload_n hE 0 (dlX3_isUp_0.at 4 rfl) rfl rfl ?_
  refine q_get hE (dlX3_isUp_0.at 5 rfl) kc3 wf_X3_9 (g_Course ht) rfl (b_Course ht) rfl ?_
  refine q_icmp_ne hE (tgt := 17) (dlX3_isUp_0.at 6 rfl) (by decide) hm (fun hc1 hm => ?_) (fun hc1 hm => ?_)
  · refine q_iconst hE (dlX3_isUp_0.at 7 rfl) ic_1 ?_
    refine q_goto hE (tgt := 18) (dlX3_isUp_0.at 8 rfl) (by decide) ?_
    exact q_bret (X := fun z => WG V z o) hE (dlX3_isUp_0.at 10 rfl) hm hQ rfl (by decide)
  · refine q_iconst hE (dlX3_isUp_0.at 9 rfl) ic_0 ?_
    exact q_bret (X := fun z => WG V z o) hE (dlX3_isUp_0.at 10 rfl) hm hQ rfl (by decide)
set_option maxRecDepth 10000 in
theorem ok_X7_pace {V : Ev} {l : Launch} {o : PH} {F : Nat}  (hfx : V.2.2.2.2 = false)  {h : PH} : ∀ (v : Int32) (h' : PH), f_X7_pace F  h = some (v, h') → Ctr l V yX7_pace cX7_pace 1 (some .int) 1 [rf V 1] 143 (WG V h o) 143 (WG V (h') o) (some (.int v)) 0 0 := by
  intro v h' hm
  refine Ctr.intro RX7 (by decide +kernel) rfl rfl rfl ?_
  intro E hE hQ _
  unfold f_X7_pace at hm
  refine q_aload_n hE 0 (dlX7_pace_0.at 0 rfl) rfl rfl ?_
  refine q_get hE (dlX7_pace_0.at 1 rfl) kc7 wf_X7_53 g1 rfl rfl rfl ?_
  refine q_ifnonnullO hE (tgt := 12) (dlX7_pace_0.at 2 rfl) (by decide) hm (fun _ hm => ?_) (fun z1 _ hm => ?_)
  · refine q_bipush hE (dlX7_pace_0.at 3 rfl) bc_10 ?_
    refine q_goto hE (tgt := 19) (dlX7_pace_0.at 4 rfl) (by decide) ?_
    exact q_iret (X := fun z => WG V z o) hE (dlX7_pace_0.at 8 rfl) hm hQ rfl
  · refine q_aload_n hE 0 (dlX7_pace_0.at 5 rfl) rfl rfl ?_
    refine q_get hE (dlX7_pace_0.at 6 rfl) kc7 wf_X7_53 g1 rfl rfl rfl ?_
    refine q_deref hE hm (fun z2 hz2 hm => ?_)
    refine q_getN hE (dlX7_pace_0.at 7 rfl) kc2 wf_X7_85 (g_Bench hz2) rfl (b_Bench hz2) rfl ?_
    exact q_iret (X := fun z => WG V z o) hE (dlX7_pace_0.at 8 rfl) hm hQ rfl
set_option maxRecDepth 10000 in
theorem ok_X7_holds {V : Ev} {l : Launch} {o : PH} {F : Nat}  (hfx : V.2.2.2.2 = false) {a1 : Int32} {a2 : Int32} {h : PH} : ∀ (v : Int32) (h' : PH), f_X7_holds F a1 a2 h = some (v, h') → Ctr l V yX7_holds cX7_holds 4 (some .int) 2 [rf V 1, .int a1, .int a2] 143 (WG V h o) 143 (WG V (h') o) (some (.int v)) 0 0 := by
  intro v h' hm
  refine Ctr.intro RX7 (by decide +kernel) rfl rfl rfl ?_
  intro E hE hQ _
  unfold f_X7_holds at hm
  refine q_aload_n hE 0 (dlX7_holds_0.at 0 rfl) rfl rfl ?_
  refine q_callV_i (X := fun z => WG V z o) hE (As := []) (dlX7_holds_0.at 1 rfl) mw_X7_pace wm_X7_104 rfl rfl rfl rfl (Nat.zero_le _) (Nat.zero_le _) rfl kc7 g1 rfl (ok_X7_pace hfx) hm (fun v1 h1 hm => ?_)
  refine q_istore_n hE [(0, _), (1, _), (2, _), (3, _)] (dlX7_holds_0.at 2 rfl) rfl rfl rfl ?_
  refine q_aload_n hE 0 (dlX7_holds_0.at 3 rfl) rfl rfl ?_
  refine q_get hE (dlX7_holds_0.at 4 rfl) kc7 wf_X7_15 g1 rfl rfl rfl ?_
  refine q_iload_n hE 1 (dlX7_holds_0.at 5 rfl) rfl rfl ?_
  refine q_iald hE (dlX7_holds_0.at 6 rfl) g2 rfl hm (fun hm => ?_)
  refine q_tcase hE (dlX7_holds_0.at 7 rfl) (1 : Int32) 48 (by decide) hm (fun _ hm => ?_) (fun hn2_1 hm => ?_)
  · refine q_iload_n hE 3 (dlX7_holds_0.at 8 rfl) rfl rfl ?_
    refine q_iconst hE (dlX7_holds_0.at 9 rfl) ic_2 ?_
    refine q_imul hE (dlX7_holds_0.at 10 rfl) ?_
    exact q_iret (X := fun z => WG V z o) hE (dlX7_holds_0.at 11 rfl) hm hQ rfl
  · refine q_tcase hE (dlX7_holds_0.at 7 rfl) (2 : Int32) 92 (by decide) hm (fun _ hm => ?_) (fun hn2_2 hm => ?_)
    · refine q_iload_n hE 3 (dlX7_holds_1.at 4 rfl) rfl rfl ?_
      exact q_iret (X := fun z => WG V z o) hE (dlX7_holds_1.at 5 rfl) hm hQ rfl
    · refine q_tcase hE (dlX7_holds_0.at 7 rfl) (3 : Int32) 52 (by decide) hm (fun _ hm => ?_) (fun hn2_3 hm => ?_)
      · refine q_iconst hE (dlX7_holds_0.at 12 rfl) ic_1 ?_
        refine q_iload_n hE 3 (dlX7_holds_0.at 13 rfl) rfl rfl ?_
        refine q_iconst hE (dlX7_holds_0.at 14 rfl) ic_2 ?_
        refine q_idiv hE (dlX7_holds_0.at 15 rfl) hm (fun hm => ?_)
        refine q_mmax hE (dlX7_holds_0.at 16 rfl) wm_X7_107 w_mmax rfl rfl (Nat.zero_le _) (Nat.zero_le _) ?_
        exact q_iret (X := fun z => WG V z o) hE (dlX7_holds_0.at 17 rfl) hm hQ rfl
      · refine q_tcase hE (dlX7_holds_0.at 7 rfl) (4 : Int32) 60 (by decide) hm (fun _ hm => ?_) (fun hn2_4 hm => ?_)
        · refine q_iload_n hE 3 (dlX7_holds_0.at 18 rfl) rfl rfl ?_
          refine q_iconst hE (dlX7_holds_0.at 19 rfl) ic_2 ?_
          refine q_imul hE (dlX7_holds_0.at 20 rfl) ?_
          refine q_aload_n hE 0 (dlX7_holds_0.at 21 rfl) rfl rfl ?_
          refine q_get hE (dlX7_holds_0.at 22 rfl) kc7 wf_X7_19 g1 rfl rfl rfl ?_
          refine q_iload_n hE 1 (dlX7_holds_0.at 23 rfl) rfl rfl ?_
          refine q_iald hE (dlX7_holds_0.at 24 rfl) g3 rfl hm (fun hm => ?_)
          refine q_iadd hE (dlX7_holds_0.at 25 rfl) ?_
          exact q_iret (X := fun z => WG V z o) hE (dlX7_holds_0.at 26 rfl) hm hQ rfl
        · refine q_tcase hE (dlX7_holds_0.at 7 rfl) (5 : Int32) 92 (by decide) hm (fun _ hm => ?_) (fun hn2_5 hm => ?_)
          · refine q_iload_n hE 3 (dlX7_holds_1.at 4 rfl) rfl rfl ?_
            exact q_iret (X := fun z => WG V z o) hE (dlX7_holds_1.at 5 rfl) hm hQ rfl
          · refine q_tcase hE (dlX7_holds_0.at 7 rfl) (6 : Int32) 71 (by decide) hm (fun _ hm => ?_) (fun hn2_6 hm => ?_)
            · refine q_iconst hE (dlX7_holds_0.at 27 rfl) ic_1 ?_
              refine q_iload_n hE 3 (dlX7_holds_0.at 28 rfl) rfl rfl ?_
              refine q_iconst hE (dlX7_holds_0.at 29 rfl) ic_2 ?_
              refine q_idiv hE (dlX7_holds_0.at 30 rfl) hm (fun hm => ?_)
              refine q_mmax hE (dlX7_holds_0.at 31 rfl) wm_X7_107 w_mmax rfl rfl (Nat.zero_le _) (Nat.zero_le _) ?_
              refine q_aload_n hE 0 (dlX7_holds_0.at 32 rfl) rfl rfl ?_
              refine q_get hE (dlX7_holds_0.at 33 rfl) kc7 wf_X7_22 g1 rfl rfl rfl ?_
              refine q_iload_n hE 1 (dlX7_holds_0.at 34 rfl) rfl rfl ?_
              refine q_iconst hE (dlX7_holds_0.at 35 rfl) ic_4 ?_
              refine q_imul hE (dlX7_holds_0.at 36 rfl) ?_
              refine q_iload_n hE 2 (dlX7_holds_0.at 37 rfl) rfl rfl ?_
              refine q_iconst hE (dlX7_holds_0.at 38 rfl) ic_4 ?_
              refine q_irem hE (dlX7_holds_0.at 39 rfl) hm (fun hm => ?_)
              refine q_iadd hE (dlX7_holds_1.at 0 rfl) ?_
              refine q_iald hE (dlX7_holds_1.at 1 rfl) g4 rfl hm (fun hm => ?_)
              refine q_iadd hE (dlX7_holds_1.at 2 rfl) ?_
              exact q_iret (X := fun z => WG V z o) hE (dlX7_holds_1.at 3 rfl) hm hQ rfl
            · refine q_tdef hE (tgt := 92) (dlX7_holds_0.at 7 rfl) (by have := lv_neT (a := 1) hn2_1 (by decide); have := lv_neT (a := 2) hn2_2 (by decide); have := lv_neT (a := 3) hn2_3 (by decide); have := lv_neT (a := 4) hn2_4 (by decide); have := lv_neT (a := 5) hn2_5 (by decide); have := lv_neT (a := 6) hn2_6 (by decide); omega) (by decide) ?_
              refine q_iload_n hE 3 (dlX7_holds_1.at 4 rfl) rfl rfl ?_
              exact q_iret (X := fun z => WG V z o) hE (dlX7_holds_1.at 5 rfl) hm hQ rfl
set_option maxRecDepth 10000 in
theorem okL_X7_night_2 {V : Ev} {l : Launch} {o : PH} {F : Nat}  (hfx : V.2.2.2.2 = false) {E : Cx} (hE : CX E V l cX7_night RX7 3 2 0 0 none) {r : Unit × PH} (hQ : RQ E V 143 (WG V r.2 o) (none) 0 0) : ∀ (n : Nat) (x1 : Nat) (x2 : Int32) (h : PH), isCourse x1 = true → fL_X7_night_2 F n x1 x2 h = some r → PW E V 0 0 143 (WG V h o) 2 [(0, rf V 1), (1, rf V x1), (2, .int x2)] [] := by
  intro n
  induction n with
  | zero => intro x1 x2 h hx1 hm; cases hm
  | succ n ih =>
    intro x1 x2 h hx1 hm
    rw [fL_X7_night_2] at hm
    refine q_iload_n hE 2 (dlX7_night_0.at 2 rfl) rfl rfl ?_
    refine q_aload_n hE 0 (dlX7_night_0.at 3 rfl) rfl rfl ?_
    refine q_get hE (dlX7_night_0.at 4 rfl) kc7 wf_X7_11 g1 rfl rfl rfl ?_
    refine q_icmp_ge hE (tgt := 34) (dlX7_night_0.at 5 rfl) (by decide) hm (fun hc1 hm => ?_) (fun hc1 hm => ?_)
    · refine q_aload_n hE 1 (dlX7_night_0.at 20 rfl) rfl rfl ?_
      refine q_dup hE (dlX7_night_0.at 21 rfl) rfl ?_
      refine q_getN hE (dlX7_night_0.at 22 rfl) kc3 wf_X7_73 (g_Course hx1) rfl (b_Course hx1) rfl ?_
      refine q_iconst hE (dlX7_night_0.at 23 rfl) ic_1 ?_
      refine q_iadd hE (dlX7_night_0.at 24 rfl) ?_
      refine q_putN hE hfx (dlX7_night_0.at 25 rfl) kc3 wf_X7_73 (g_Course hx1) rfl rfl rfl rfl (b_Course hx1) rfl (u_Course_0 hx1) ?_
      refine q_lth (X := fun z => WG V z o) hm (fun h2 hm => ?_)
      exact q_vret (X := fun z => WG V z o) hE (dlX7_night_0.at 26 rfl) hm hQ rfl
    · refine q_aload_n hE 1 (dlX7_night_0.at 6 rfl) rfl rfl ?_
      refine q_iload_n hE 2 (dlX7_night_0.at 7 rfl) rfl rfl ?_
      refine q_callVN_i (X := fun z => WG V z o) hE (As := [_]) (dlX7_night_0.at 8 rfl) mw_X3_isUp wm_X7_100 rfl rfl rfl rfl (Nat.zero_le _) (Nat.zero_le _) rfl kc3 (g_Course hx1) (b_Course hx1) (ok_X3_isUp hfx) hm (fun v3 h3 hm => ?_)
      refine q_if_eq hE (tgt := 28) (dlX7_night_0.at 9 rfl) (by decide) hm (fun hc4 hm => ?_) (fun hc4 hm => ?_)
      · refine q_iinc hE [(0, _), (1, _), (2, _)] 2 (dlX7_night_0.at 18 rfl) rfl ic_1 rfl rfl ?_
        refine q_goto hE (tgt := 2) (dlX7_night_0.at 19 rfl) (by decide) ?_
        refine q_sub hE [0, 1, 2] rfl ?_
        exact ih _ _ _ hx1 hm
      · refine q_aload_n hE 1 (dlX7_night_0.at 10 rfl) rfl rfl ?_
        refine q_getN hE (dlX7_night_0.at 11 rfl) kc3 wf_X7_70 (g_Course hx1) rfl (b_Course hx1) rfl ?_
        refine q_iload_n hE 2 (dlX7_night_0.at 12 rfl) rfl rfl ?_
        refine q_dup2 hE (dlX7_night_0.at 13 rfl) rfl rfl ?_
        refine q_iald hE (dlX7_night_0.at 14 rfl) (g_Course_heard hx1) (b_Course_heard hx1) hm (fun hm => ?_)
        refine q_iconst hE (dlX7_night_0.at 15 rfl) ic_1 ?_
        refine q_iadd hE (dlX7_night_0.at 16 rfl) ?_
        refine q_iast hE hfx (dlX7_night_0.at 17 rfl) (g_Course_heard hx1) (b_Course_heard hx1) (u_Course_heard hx1) hm (fun hm => ?_)
        refine q_lth (X := fun z => WG V z o) hm (fun h5 hm => ?_)
        refine q_iinc hE [(0, _), (1, _), (2, _)] 2 (dlX7_night_0.at 18 rfl) rfl ic_1 rfl rfl ?_
        refine q_goto hE (tgt := 2) (dlX7_night_0.at 19 rfl) (by decide) ?_
        refine q_sub hE [0, 1, 2] rfl ?_
        exact ih _ _ _ hx1 hm
set_option maxRecDepth 10000 in
theorem ok_X7_night {V : Ev} {l : Launch} {o : PH} {F : Nat}  (hfx : V.2.2.2.2 = false) {a1 : Nat} {h : PH} : ∀ (v : Unit) (h' : PH), f_X7_night F a1 h = some (v, h') → Ctr l V yX7_night cX7_night 3 none 2 [rf V 1, rf V a1] 143 (WG V h o) 143 (WG V (h') o) (none) 0 0 := by
  intro v h' hm
  refine Ctr.intro RX7 (by decide +kernel) rfl rfl rfl ?_
  intro E hE hQ _
  unfold f_X7_night at hm
  obtain ⟨hp1, hm⟩ := g_if hm
  refine q_iconst hE (dlX7_night_0.at 0 rfl) ic_0 ?_
  refine q_istore_n hE [(0, _), (1, _), (2, _)] (dlX7_night_0.at 1 rfl) rfl rfl rfl ?_
  refine q_sub hE [0, 1, 2] rfl ?_
  exact okL_X7_night_2 hfx hE hQ  F _ _ _ hp1 hm
set_option maxRecDepth 10000 in
theorem okL_X7_evening_13 {V : Ev} {l : Launch} {o : PH} {F : Nat}  (hfx : V.2.2.2.2 = false) {E : Cx} (hE : CX E V l cX7_evening RX7 7 3 0 0 (some .int)) {r : Int32 × PH} (hQ : RQ E V 143 (WG V r.2 o) (some (.int r.1)) 0 0) : ∀ (n : Nat) (x1 : Nat) (x2 : Int32) (x3 : Int32) (x4 : Int32) (h : PH), isCourse x1 = true → fL_X7_evening_13 F n x1 x2 x3 x4 h = some r → PW E V 0 0 143 (WG V h o) 13 [(0, rf V 1), (1, rf V x1), (2, .int x2), (3, .int x3), (4, .int x4)] [] := by
  intro n
  induction n with
  | zero => intro x1 x2 x3 x4 h hx1 hm; cases hm
  | succ n ih =>
    intro x1 x2 x3 x4 h hx1 hm
    rw [fL_X7_evening_13] at hm
    refine q_iload hE 4 (dlX7_evening_0.at 8 rfl) rfl ?_
    refine q_bipush hE (dlX7_evening_0.at 9 rfl) bc_30 ?_
    refine q_icmp_ge hE (tgt := 111) (dlX7_evening_0.at 10 rfl) (by decide) hm (fun hc2 hm => ?_) (fun hc2 hm => ?_)
    · refine q_aload_n hE 0 (dlX7_evening_1.at 23 rfl) rfl rfl ?_
      refine q_aload_n hE 1 (dlX7_evening_1.at 24 rfl) rfl rfl ?_
      refine q_callV_v (X := fun z => WG V z o) hE (As := [_]) (dlX7_evening_1.at 25 rfl) mw_X7_night wm_X7_122 rfl rfl rfl rfl (Nat.zero_le _) (Nat.zero_le _) rfl kc7 g1 rfl (ok_X7_night hfx) hm (fun v3 h3 hm => ?_)
      refine q_iload hE 4 (dlX7_evening_1.at 26 rfl) rfl ?_
      exact q_iret (X := fun z => WG V z o) hE (dlX7_evening_1.at 27 rfl) hm hQ rfl
    · refine q_aload_n hE 1 (dlX7_evening_0.at 11 rfl) rfl rfl ?_
      refine q_getN hE (dlX7_evening_0.at 12 rfl) kc3 wf_X7_70 (g_Course hx1) rfl (b_Course hx1) rfl ?_
      refine q_iload_n hE 2 (dlX7_evening_0.at 13 rfl) rfl rfl ?_
      refine q_iald hE (dlX7_evening_0.at 14 rfl) (g_Course_heard hx1) (b_Course_heard hx1) hm (fun hm => ?_)
      refine q_aload_n hE 1 (dlX7_evening_0.at 15 rfl) rfl rfl ?_
      refine q_getN hE (dlX7_evening_0.at 16 rfl) kc3 wf_X7_73 (g_Course hx1) rfl (b_Course hx1) rfl ?_
      refine q_icmp_ge hE (tgt := 111) (dlX7_evening_0.at 17 rfl) (by decide) hm (fun hc4 hm => ?_) (fun hc4 hm => ?_)
      · refine q_aload_n hE 0 (dlX7_evening_1.at 23 rfl) rfl rfl ?_
        refine q_aload_n hE 1 (dlX7_evening_1.at 24 rfl) rfl rfl ?_
        refine q_callV_v (X := fun z => WG V z o) hE (As := [_]) (dlX7_evening_1.at 25 rfl) mw_X7_night wm_X7_122 rfl rfl rfl rfl (Nat.zero_le _) (Nat.zero_le _) rfl kc7 g1 rfl (ok_X7_night hfx) hm (fun v5 h5 hm => ?_)
        refine q_iload hE 4 (dlX7_evening_1.at 26 rfl) rfl ?_
        exact q_iret (X := fun z => WG V z o) hE (dlX7_evening_1.at 27 rfl) hm hQ rfl
      · refine q_aload_n hE 1 (dlX7_evening_0.at 18 rfl) rfl rfl ?_
        refine q_getN hE (dlX7_evening_0.at 19 rfl) kc3 wf_X7_76 (g_Course hx1) rfl (b_Course hx1) rfl ?_
        refine q_iload_n hE 2 (dlX7_evening_0.at 20 rfl) rfl rfl ?_
        refine q_zald hE (dlX7_evening_0.at 21 rfl) (g_Course_balks hx1) (b_Course_balks hx1) hm (fun hm => ?_)
        refine q_if_ne hE (tgt := 111) (dlX7_evening_0.at 22 rfl) (by decide) hm (fun hc6 hm => ?_) (fun hc6 hm => ?_)
        · refine q_aload_n hE 1 (dlX7_evening_0.at 23 rfl) rfl rfl ?_
          refine q_getN hE (dlX7_evening_0.at 24 rfl) kc3 wf_X7_70 (g_Course hx1) rfl (b_Course hx1) rfl ?_
          refine q_iload_n hE 2 (dlX7_evening_0.at 25 rfl) rfl rfl ?_
          refine q_iald hE (dlX7_evening_0.at 26 rfl) (g_Course_heard hx1) (b_Course_heard hx1) hm (fun hm => ?_)
          refine q_istore hE [(0, _), (1, _), (2, _), (3, _), (4, _), (5, _)] (dlX7_evening_0.at 27 rfl) rfl rfl ?_
          refine q_aload_n hE 0 (dlX7_evening_0.at 28 rfl) rfl rfl ?_
          refine q_iload_n hE 2 (dlX7_evening_0.at 29 rfl) rfl rfl ?_
          refine q_iload hE 5 (dlX7_evening_0.at 30 rfl) rfl ?_
          refine q_callV_i (X := fun z => WG V z o) hE (As := [_, _]) (dlX7_evening_0.at 31 rfl) mw_X7_newsOf wm_X7_112 rfl rfl rfl rfl (Nat.zero_le _) (Nat.zero_le _) rfl kc7 g1 rfl (ok_X7_newsOf hfx) hm (fun v8 h8 hm => ?_)
          refine q_istore hE [(0, _), (1, _), (2, _), (3, _), (4, _), (5, _), (6, _)] (dlX7_evening_0.at 32 rfl) rfl rfl ?_
          refine q_aload_n hE 0 (dlX7_evening_0.at 33 rfl) rfl rfl ?_
          refine q_iload_n hE 2 (dlX7_evening_0.at 34 rfl) rfl rfl ?_
          refine q_iload hE 5 (dlX7_evening_0.at 35 rfl) rfl ?_
          refine q_callV_i (X := fun z => WG V z o) hE (As := [_, _]) (dlX7_evening_0.at 36 rfl) mw_X7_minds wm_X7_118 rfl rfl rfl rfl (Nat.zero_le _) (Nat.zero_le _) rfl kc7 g1 rfl (ok_X7_minds hfx) hm (fun v9 h9 hm => ?_)
          refine q_if_eq hE (tgt := 79) (dlX7_evening_0.at 37 rfl) (by decide) hm (fun hc10 hm => ?_) (fun hc10 hm => ?_)
          · refine q_iload hE 4 (dlX7_evening_1.at 4 rfl) rfl ?_
            refine q_if_eq hE (tgt := 90) (dlX7_evening_1.at 5 rfl) (by decide) hm (fun hc11 hm => ?_) (fun hc11 hm => ?_)
            · refine q_iload_n hE 3 (dlX7_evening_1.at 9 rfl) rfl rfl ?_
              refine q_iload hE 6 (dlX7_evening_1.at 10 rfl) rfl ?_
              refine q_isub hE (dlX7_evening_1.at 11 rfl) ?_
              refine q_istore_n hE [(0, _), (1, _), (2, _), (3, _), (4, _), (5, _), (6, _)] (dlX7_evening_1.at 12 rfl) rfl rfl rfl ?_
              refine q_aload_n hE 1 (dlX7_evening_1.at 13 rfl) rfl rfl ?_
              refine q_getN hE (dlX7_evening_1.at 14 rfl) kc3 wf_X7_70 (g_Course hx1) rfl (b_Course hx1) rfl ?_
              refine q_iload_n hE 2 (dlX7_evening_1.at 15 rfl) rfl rfl ?_
              refine q_dup2 hE (dlX7_evening_1.at 16 rfl) rfl rfl ?_
              refine q_iald hE (dlX7_evening_1.at 17 rfl) (g_Course_heard hx1) (b_Course_heard hx1) hm (fun hm => ?_)
              refine q_iconst hE (dlX7_evening_1.at 18 rfl) ic_1 ?_
              refine q_iadd hE (dlX7_evening_1.at 19 rfl) ?_
              refine q_iast hE hfx (dlX7_evening_1.at 20 rfl) (g_Course_heard hx1) (b_Course_heard hx1) (u_Course_heard hx1) hm (fun hm => ?_)
              refine q_lth (X := fun z => WG V z o) hm (fun h12 hm => ?_)
              refine q_iinc hE [(0, _), (1, _), (2, _), (3, _), (4, _), (5, _), (6, _)] 4 (dlX7_evening_1.at 21 rfl) rfl ic_1 rfl rfl ?_
              refine q_goto hE (tgt := 13) (dlX7_evening_1.at 22 rfl) (by decide) ?_
              refine q_sub hE [0, 1, 2, 3, 4] rfl ?_
              exact ih _ _ _ _ _ hx1 hm
            · refine q_iload hE 6 (dlX7_evening_1.at 6 rfl) rfl ?_
              refine q_iload_n hE 3 (dlX7_evening_1.at 7 rfl) rfl rfl ?_
              refine q_icmp_gt hE (tgt := 111) (dlX7_evening_1.at 8 rfl) (by decide) hm (fun hc13 hm => ?_) (fun hc13 hm => ?_)
              · refine q_aload_n hE 0 (dlX7_evening_1.at 23 rfl) rfl rfl ?_
                refine q_aload_n hE 1 (dlX7_evening_1.at 24 rfl) rfl rfl ?_
                refine q_callV_v (X := fun z => WG V z o) hE (As := [_]) (dlX7_evening_1.at 25 rfl) mw_X7_night wm_X7_122 rfl rfl rfl rfl (Nat.zero_le _) (Nat.zero_le _) rfl kc7 g1 rfl (ok_X7_night hfx) hm (fun v14 h14 hm => ?_)
                refine q_iload hE 4 (dlX7_evening_1.at 26 rfl) rfl ?_
                exact q_iret (X := fun z => WG V z o) hE (dlX7_evening_1.at 27 rfl) hm hQ rfl
              · refine q_iload_n hE 3 (dlX7_evening_1.at 9 rfl) rfl rfl ?_
                refine q_iload hE 6 (dlX7_evening_1.at 10 rfl) rfl ?_
                refine q_isub hE (dlX7_evening_1.at 11 rfl) ?_
                refine q_istore_n hE [(0, _), (1, _), (2, _), (3, _), (4, _), (5, _), (6, _)] (dlX7_evening_1.at 12 rfl) rfl rfl rfl ?_
                refine q_aload_n hE 1 (dlX7_evening_1.at 13 rfl) rfl rfl ?_
                refine q_getN hE (dlX7_evening_1.at 14 rfl) kc3 wf_X7_70 (g_Course hx1) rfl (b_Course hx1) rfl ?_
                refine q_iload_n hE 2 (dlX7_evening_1.at 15 rfl) rfl rfl ?_
                refine q_dup2 hE (dlX7_evening_1.at 16 rfl) rfl rfl ?_
                refine q_iald hE (dlX7_evening_1.at 17 rfl) (g_Course_heard hx1) (b_Course_heard hx1) hm (fun hm => ?_)
                refine q_iconst hE (dlX7_evening_1.at 18 rfl) ic_1 ?_
                refine q_iadd hE (dlX7_evening_1.at 19 rfl) ?_
                refine q_iast hE hfx (dlX7_evening_1.at 20 rfl) (g_Course_heard hx1) (b_Course_heard hx1) (u_Course_heard hx1) hm (fun hm => ?_)
                refine q_lth (X := fun z => WG V z o) hm (fun h15 hm => ?_)
                refine q_iinc hE [(0, _), (1, _), (2, _), (3, _), (4, _), (5, _), (6, _)] 4 (dlX7_evening_1.at 21 rfl) rfl ic_1 rfl rfl ?_
                refine q_goto hE (tgt := 13) (dlX7_evening_1.at 22 rfl) (by decide) ?_
                refine q_sub hE [0, 1, 2, 3, 4] rfl ?_
                exact ih _ _ _ _ _ hx1 hm
          · refine q_aload_n hE 1 (dlX7_evening_0.at 38 rfl) rfl rfl ?_
            refine q_getN hE (dlX7_evening_0.at 39 rfl) kc3 wf_X7_76 (g_Course hx1) rfl (b_Course hx1) rfl ?_
            refine q_iload_n hE 2 (dlX7_evening_1.at 0 rfl) rfl rfl ?_
            refine q_iconst hE (dlX7_evening_1.at 1 rfl) ic_1 ?_
            refine q_zast hE hfx (dlX7_evening_1.at 2 rfl) (g_Course_balks hx1) (b_Course_balks hx1) (u_Course_balks hx1) hm (fun hm => ?_)
            refine q_lth (X := fun z => WG V z o) hm (fun h16 hm => ?_)
            refine q_goto hE (tgt := 108) (dlX7_evening_1.at 3 rfl) (by decide) ?_
            refine q_goto hE (tgt := 13) (dlX7_evening_1.at 22 rfl) (by decide) ?_
            refine q_sub hE [0, 1, 2, 3, 4] rfl ?_
            exact ih _ _ _ _ _ hx1 hm
        · refine q_aload_n hE 0 (dlX7_evening_1.at 23 rfl) rfl rfl ?_
          refine q_aload_n hE 1 (dlX7_evening_1.at 24 rfl) rfl rfl ?_
          refine q_callV_v (X := fun z => WG V z o) hE (As := [_]) (dlX7_evening_1.at 25 rfl) mw_X7_night wm_X7_122 rfl rfl rfl rfl (Nat.zero_le _) (Nat.zero_le _) rfl kc7 g1 rfl (ok_X7_night hfx) hm (fun v7 h7 hm => ?_)
          refine q_iload hE 4 (dlX7_evening_1.at 26 rfl) rfl ?_
          exact q_iret (X := fun z => WG V z o) hE (dlX7_evening_1.at 27 rfl) hm hQ rfl
set_option maxRecDepth 10000 in
theorem ok_X7_evening {V : Ev} {l : Launch} {o : PH} {F : Nat}  (hfx : V.2.2.2.2 = false) {a1 : Nat} {a2 : Int32} {h : PH} : ∀ (v : Int32) (h' : PH), f_X7_evening F a1 a2 h = some (v, h') → Ctr l V yX7_evening cX7_evening 7 (some .int) 3 [rf V 1, rf V a1, .int a2] 143 (WG V h o) 143 (WG V (h') o) (some (.int v)) 0 0 := by
  intro v h' hm
  refine Ctr.intro RX7 (by decide +kernel) rfl rfl rfl ?_
  intro E hE hQ _
  unfold f_X7_evening at hm
  obtain ⟨hp1, hm⟩ := g_if hm
  refine q_aload_n hE 0 (dlX7_evening_0.at 0 rfl) rfl rfl ?_
  refine q_iload_n hE 2 (dlX7_evening_0.at 1 rfl) rfl rfl ?_
  refine q_aload_n hE 1 (dlX7_evening_0.at 2 rfl) rfl rfl ?_
  refine q_getN hE (dlX7_evening_0.at 3 rfl) kc3 wf_X7_73 (g_Course hp1) rfl (b_Course hp1) rfl ?_
  refine q_callV_i (X := fun z => WG V z o) hE (As := [_, _]) (dlX7_evening_0.at 4 rfl) mw_X7_holds wm_X7_115 rfl rfl rfl rfl (Nat.zero_le _) (Nat.zero_le _) rfl kc7 g1 rfl (ok_X7_holds hfx) hm (fun v1 h1 hm => ?_)
  refine q_istore_n hE [(0, _), (1, _), (2, _), (3, _)] (dlX7_evening_0.at 5 rfl) rfl rfl rfl ?_
  refine q_iconst hE (dlX7_evening_0.at 6 rfl) ic_0 ?_
  refine q_istore hE [(0, _), (1, _), (2, _), (3, _), (4, _)] (dlX7_evening_0.at 7 rfl) rfl rfl ?_
  refine q_sub hE [0, 1, 2, 3, 4] rfl ?_
  exact okL_X7_evening_13 hfx hE hQ  F _ _ _ _ _ hp1 hm
set_option maxRecDepth 10000 in
theorem okL_X1_whole_6 {V : Ev} {l : Launch} {o : PH} {F : Nat}  (hfx : V.2.2.2.2 = false) {E : Cx} (hE : CX E V l cX1_whole RX1 3 4 0 0 (some .int)) {r : Int32 × PH} (hQ : RQ E V 143 (WG V r.2 o) (some (.int r.1)) 0 0) : ∀ (n : Nat) (x1 : Int32) (x2 : Int32) (h : PH), fL_X1_whole_6 F n x1 x2 h = some r → PW E V 0 0 143 (WG V h o) 6 [(0, rf V 34), (1, .int x1), (2, .int x2)] [] := by
  intro n
  induction n with
  | zero => intro x1 x2 h hm; cases hm
  | succ n ih =>
    intro x1 x2 h hm
    rw [fL_X1_whole_6] at hm
    refine q_iload_n hE 2 (dlX1_whole_0.at 4 rfl) rfl rfl ?_
    refine q_bipush hE (dlX1_whole_0.at 5 rfl) bc_60 ?_
    refine q_icmp_gt hE (tgt := 44) (dlX1_whole_0.at 6 rfl) (by decide) hm (fun hc2 hm => ?_) (fun hc2 hm => ?_)
    · refine q_bipush hE (dlX1_whole_0.at 23 rfl) bc_m5 ?_
      exact q_iret (X := fun z => WG V z o) hE (dlX1_whole_0.at 24 rfl) hm hQ rfl
    · refine q_aload_n hE 0 (dlX1_whole_0.at 7 rfl) rfl rfl ?_
      refine q_get hE (dlX1_whole_0.at 8 rfl) kc1 wf_X1_12 g34 rfl rfl rfl ?_
      refine q_iload_n hE 1 (dlX1_whole_0.at 9 rfl) rfl rfl ?_
      refine q_callVN_i (X := fun z => WG V z o) hE (As := [_]) (dlX1_whole_0.at 10 rfl) mw_X3_isUp wm_X1_60 rfl rfl rfl rfl (Nat.zero_le _) (Nat.zero_le _) rfl kc3 g35 rfl (ok_X3_isUp hfx) hm (fun v3 h3 hm => ?_)
      refine q_if_eq hE (tgt := 25) (dlX1_whole_0.at 11 rfl) (by decide) hm (fun hc4 hm => ?_) (fun hc4 hm => ?_)
      · refine q_aload_n hE 0 (dlX1_whole_0.at 14 rfl) rfl rfl ?_
        refine q_get hE (dlX1_whole_0.at 15 rfl) kc1 wf_X1_25 g34 rfl rfl rfl ?_
        refine q_aload_n hE 0 (dlX1_whole_0.at 16 rfl) rfl rfl ?_
        refine q_get hE (dlX1_whole_0.at 17 rfl) kc1 wf_X1_12 g34 rfl rfl rfl ?_
        refine q_iload_n hE 1 (dlX1_whole_0.at 18 rfl) rfl rfl ?_
        refine q_callVN_i (X := fun z => WG V z o) hE (As := [_, _]) (dlX1_whole_0.at 19 rfl) mw_X7_evening wm_X1_38 rfl rfl rfl rfl (Nat.zero_le _) (Nat.zero_le _) rfl kc7 g1 rfl (ok_X7_evening hfx) hm (fun v5 h5 hm => ?_)
        refine q_pop hE (dlX1_whole_0.at 20 rfl) rfl ?_
        refine q_iinc hE [(0, _), (1, _), (2, _)] 2 (dlX1_whole_0.at 21 rfl) rfl ic_1 rfl rfl ?_
        refine q_goto hE (tgt := 6) (dlX1_whole_0.at 22 rfl) (by decide) ?_
        refine q_sub hE [0, 1, 2] rfl ?_
        exact ih _ _ _  hm
      · refine q_iload_n hE 2 (dlX1_whole_0.at 12 rfl) rfl rfl ?_
        exact q_iret (X := fun z => WG V z o) hE (dlX1_whole_0.at 13 rfl) hm hQ rfl
set_option maxRecDepth 10000 in
theorem ok_X1_whole {V : Ev} {l : Launch} {o : PH} {F : Nat}  (hfx : V.2.2.2.2 = false) {a1 : Int32} {h : PH} : ∀ (v : Int32) (h' : PH), f_X1_whole F a1 h = some (v, h') → Ctr l V yX1_whole cX1_whole 3 (some .int) 4 [rf V 34, .int a1] 143 (WG V h o) 143 (WG V (h') o) (some (.int v)) 0 0 := by
  intro v h' hm
  refine Ctr.intro RX1 (by decide +kernel) rfl rfl rfl ?_
  intro E hE hQ _
  unfold f_X1_whole at hm
  refine q_aload_n hE 0 (dlX1_whole_0.at 0 rfl) rfl rfl ?_
  refine q_callV_v (X := fun z => WG V z o) hE (As := []) (dlX1_whole_0.at 1 rfl) mw_X1_begin wm_X1_42 rfl rfl rfl rfl (Nat.zero_le _) (Nat.zero_le _) rfl kc1 g34 rfl (ok_X1_begin hfx) hm (fun v1 h1 hm => ?_)
  refine q_iconst hE (dlX1_whole_0.at 2 rfl) ic_0 ?_
  refine q_istore_n hE [(0, _), (1, _), (2, _)] (dlX1_whole_0.at 3 rfl) rfl rfl rfl ?_
  refine q_sub hE [0, 1, 2] rfl ?_
  exact okL_X1_whole_6 hfx hE hQ  F _ _ _  hm
set_option maxRecDepth 10000 in
theorem ok_X7_newsAhead {V : Ev} {l : Launch} {o : PH} {F : Nat}  (hfx : V.2.2.2.2 = false) {a1 : Int32} {a2 : Int32} {h : PH} : ∀ (v : Int32) (h' : PH), f_X7_newsAhead F a1 a2 h = some (v, h') → Ctr l V yX7_newsAhead cX7_newsAhead 4 (some .int) 1 [rf V 1, .int a1, .int a2] 143 (WG V h o) 143 (WG V (h') o) (some (.int v)) 0 0 := by
  intro v h' hm
  refine Ctr.intro RX7 (by decide +kernel) rfl rfl rfl ?_
  intro E hE hQ _
  unfold f_X7_newsAhead at hm
  refine q_iload_n hE 1 (dlX7_newsAhead_0.at 0 rfl) rfl rfl ?_
  refine q_bipush hE (dlX7_newsAhead_0.at 1 rfl) bc_101 ?_
  refine q_imul hE (dlX7_newsAhead_0.at 2 rfl) ?_
  refine q_istore_n hE [(0, _), (1, _), (2, _), (3, _)] (dlX7_newsAhead_0.at 3 rfl) rfl rfl rfl ?_
  refine q_iload_n hE 2 (dlX7_newsAhead_0.at 4 rfl) rfl rfl ?_
  refine q_bipush hE (dlX7_newsAhead_0.at 5 rfl) bc_100 ?_
  refine q_idiv hE (dlX7_newsAhead_0.at 6 rfl) hm (fun hm => ?_)
  refine q_aload_n hE 0 (dlX7_newsAhead_0.at 7 rfl) rfl rfl ?_
  refine q_get hE (dlX7_newsAhead_0.at 8 rfl) kc7 wf_X7_25 g1 rfl rfl rfl ?_
  refine q_iload_n hE 3 (dlX7_newsAhead_0.at 9 rfl) rfl rfl ?_
  refine q_bipush hE (dlX7_newsAhead_0.at 10 rfl) bc_100 ?_
  refine q_iadd hE (dlX7_newsAhead_0.at 11 rfl) ?_
  refine q_iald hE (dlX7_newsAhead_0.at 12 rfl) g5 rfl hm (fun hm => ?_)
  refine q_imul hE (dlX7_newsAhead_0.at 13 rfl) ?_
  refine q_aload_n hE 0 (dlX7_newsAhead_0.at 14 rfl) rfl rfl ?_
  refine q_get hE (dlX7_newsAhead_0.at 15 rfl) kc7 wf_X7_25 g1 rfl rfl rfl ?_
  refine q_iload_n hE 3 (dlX7_newsAhead_0.at 16 rfl) rfl rfl ?_
  refine q_iload_n hE 2 (dlX7_newsAhead_0.at 17 rfl) rfl rfl ?_
  refine q_bipush hE (dlX7_newsAhead_0.at 18 rfl) bc_100 ?_
  refine q_irem hE (dlX7_newsAhead_0.at 19 rfl) hm (fun hm => ?_)
  refine q_iadd hE (dlX7_newsAhead_0.at 20 rfl) ?_
  refine q_iald hE (dlX7_newsAhead_0.at 21 rfl) g5 rfl hm (fun hm => ?_)
  refine q_iadd hE (dlX7_newsAhead_0.at 22 rfl) ?_
  exact q_iret (X := fun z => WG V z o) hE (dlX7_newsAhead_0.at 23 rfl) hm hQ rfl
set_option maxRecDepth 10000 in
theorem ok_X7_leftOf {V : Ev} {l : Launch} {o : PH} {F : Nat}  (hfx : V.2.2.2.2 = false) {a1 : Nat} {a2 : Int32} {h : PH} : ∀ (v : Int32) (h' : PH), f_X7_leftOf F a1 a2 h = some (v, h') → Ctr l V yX7_leftOf cX7_leftOf 3 (some .int) 2 [rf V 1, rf V a1, .int a2] 143 (WG V h o) 143 (WG V (h') o) (some (.int v)) 0 0 := by
  intro v h' hm
  refine Ctr.intro RX7 (by decide +kernel) rfl rfl rfl ?_
  intro E hE hQ _
  unfold f_X7_leftOf at hm
  obtain ⟨hp1, hm⟩ := g_if hm
  refine q_aload_n hE 0 (dlX7_leftOf_0.at 0 rfl) rfl rfl ?_
  refine q_iload_n hE 2 (dlX7_leftOf_0.at 1 rfl) rfl rfl ?_
  refine q_aload_n hE 1 (dlX7_leftOf_0.at 2 rfl) rfl rfl ?_
  refine q_getN hE (dlX7_leftOf_0.at 3 rfl) kc3 wf_X7_73 (g_Course hp1) rfl (b_Course hp1) rfl ?_
  refine q_callV_i (X := fun z => WG V z o) hE (As := [_, _]) (dlX7_leftOf_0.at 4 rfl) mw_X7_newsAhead wm_X7_92 rfl rfl rfl rfl (Nat.zero_le _) (Nat.zero_le _) rfl kc7 g1 rfl (ok_X7_newsAhead hfx) hm (fun v1 h1 hm => ?_)
  refine q_aload_n hE 0 (dlX7_leftOf_0.at 5 rfl) rfl rfl ?_
  refine q_iload_n hE 2 (dlX7_leftOf_0.at 6 rfl) rfl rfl ?_
  refine q_aload_n hE 1 (dlX7_leftOf_0.at 7 rfl) rfl rfl ?_
  refine q_getN hE (dlX7_leftOf_0.at 8 rfl) kc3 wf_X7_70 (g_Course hp1) rfl (b_Course hp1) rfl ?_
  refine q_iload_n hE 2 (dlX7_leftOf_0.at 9 rfl) rfl rfl ?_
  refine q_iald hE (dlX7_leftOf_0.at 10 rfl) (g_Course_heard hp1) (b_Course_heard hp1) hm (fun hm => ?_)
  refine q_callV_i (X := fun z => WG V z o) hE (As := [_, _]) (dlX7_leftOf_0.at 11 rfl) mw_X7_newsAhead wm_X7_92 rfl rfl rfl rfl (Nat.zero_le _) (Nat.zero_le _) rfl kc7 g1 rfl (ok_X7_newsAhead hfx) hm (fun v2 h2 hm => ?_)
  refine q_isub hE (dlX7_leftOf_0.at 12 rfl) ?_
  exact q_iret (X := fun z => WG V z o) hE (dlX7_leftOf_0.at 13 rfl) hm hQ rfl
set_option maxRecDepth 10000 in
theorem ok_X9_isClock {V : Ev} {l : Launch} {o : PH} {F : Nat}  (hfx : V.2.2.2.2 = false) {a1 : Int32} {h : PH} : ∀ (v : Int32) (h' : PH), f_X9_isClock F a1 h = some (v, h') → Ctr l V yX9_isClock cX9_isClock 2 (some .boolean) 1 [rf V 0, .int a1] 143 (WG V h o) 143 (WG V (h') o) (some (.int v)) 0 0 := by
  intro v h' hm
  refine Ctr.intro RX9 (by decide +kernel) rfl rfl rfl ?_
  intro E hE hQ _
  unfold f_X9_isClock at hm
  refine q_iload_n hE 1 (dlX9_isClock_0.at 0 rfl) rfl rfl ?_
  refine q_if_lt hE (tgt := 19) (dlX9_isClock_0.at 1 rfl) (by decide) hm (fun hc1 hm => ?_) (fun hc1 hm => ?_)
  · refine q_iconst hE (dlX9_isClock_0.at 9 rfl) ic_0 ?_
    exact q_bret (X := fun z => WG V z o) hE (dlX9_isClock_0.at 10 rfl) hm hQ rfl (by decide)
  · refine q_iload_n hE 1 (dlX9_isClock_0.at 2 rfl) rfl rfl ?_
    refine q_aload_n hE 0 (dlX9_isClock_0.at 3 rfl) rfl rfl ?_
    refine q_get hE (dlX9_isClock_0.at 4 rfl) kc9 wf_X9_12 g0 rfl rfl rfl ?_
    refine q_getN hE (dlX9_isClock_0.at 5 rfl) kc7 wf_X9_86 g1 rfl rfl rfl ?_
    refine q_icmp_ge hE (tgt := 19) (dlX9_isClock_0.at 6 rfl) (by decide) hm (fun hc2 hm => ?_) (fun hc2 hm => ?_)
    · refine q_iconst hE (dlX9_isClock_0.at 9 rfl) ic_0 ?_
      exact q_bret (X := fun z => WG V z o) hE (dlX9_isClock_0.at 10 rfl) hm hQ rfl (by decide)
    · refine q_iconst hE (dlX9_isClock_0.at 7 rfl) ic_1 ?_
      refine q_goto hE (tgt := 20) (dlX9_isClock_0.at 8 rfl) (by decide) ?_
      exact q_bret (X := fun z => WG V z o) hE (dlX9_isClock_0.at 10 rfl) hm hQ rfl (by decide)
set_option maxRecDepth 10000 in
theorem ok_X9_of {V : Ev} {l : Launch} {o : PH} {F : Nat}  (hfx : V.2.2.2.2 = false) {a1 : Int32} {a2 : Int32} {h : PH} : ∀ (v : Int32) (h' : PH), f_X9_of F a1 a2 h = some (v, h') → Ctr l V yX9_of cX9_of 3 (some .int) 5 [rf V 0, .int a1, .int a2] 143 (WG V h o) 143 (WG V (h') o) (some (.int v)) 0 0 := by
  intro v h' hm
  refine Ctr.intro RX9 (by decide +kernel) rfl rfl rfl ?_
  intro E hE hQ _
  unfold f_X9_of at hm
  refine q_aload_n hE 0 (dlX9_of_0.at 0 rfl) rfl rfl ?_
  refine q_iload_n hE 1 (dlX9_of_0.at 1 rfl) rfl rfl ?_
  refine q_callV_i (X := fun z => WG V z o) hE (As := [_]) (dlX9_of_0.at 2 rfl) mw_X9_isClock wm_X9_93 rfl rfl rfl rfl (Nat.zero_le _) (Nat.zero_le _) rfl kc9 g0 rfl (ok_X9_isClock hfx) hm (fun v1 h1 hm => ?_)
  refine q_if_ne hE (tgt := 10) (dlX9_of_0.at 3 rfl) (by decide) hm (fun hc2 hm => ?_) (fun hc2 hm => ?_)
  · refine q_iconst hE (dlX9_of_0.at 4 rfl) ic_m1 ?_
    exact q_iret (X := fun z => WG V z o) hE (dlX9_of_0.at 5 rfl) hm hQ rfl
  · refine q_iload_n hE 2 (dlX9_of_0.at 6 rfl) rfl rfl ?_
    refine q_tcase hE (dlX9_of_0.at 7 rfl) (0 : Int32) 56 (by decide) hm (fun _ hm => ?_) (fun hn3_0 hm => ?_)
    · refine q_aload_n hE 0 (dlX9_of_0.at 8 rfl) rfl rfl ?_
      refine q_get hE (dlX9_of_0.at 9 rfl) kc9 wf_X9_12 g0 rfl rfl rfl ?_
      refine q_getN hE (dlX9_of_0.at 10 rfl) kc7 wf_X9_97 g1 rfl rfl rfl ?_
      refine q_iload_n hE 1 (dlX9_of_0.at 11 rfl) rfl rfl ?_
      refine q_iald hE (dlX9_of_0.at 12 rfl) g2 rfl hm (fun hm => ?_)
      exact q_iret (X := fun z => WG V z o) hE (dlX9_of_0.at 13 rfl) hm hQ rfl
    · refine q_tcase hE (dlX9_of_0.at 7 rfl) (1 : Int32) 66 (by decide) hm (fun _ hm => ?_) (fun hn3_1 hm => ?_)
      · refine q_aload_n hE 0 (dlX9_of_0.at 14 rfl) rfl rfl ?_
        refine q_get hE (dlX9_of_0.at 15 rfl) kc9 wf_X9_12 g0 rfl rfl rfl ?_
        refine q_getN hE (dlX9_of_0.at 16 rfl) kc7 wf_X9_101 g1 rfl rfl rfl ?_
        refine q_iload_n hE 1 (dlX9_of_0.at 17 rfl) rfl rfl ?_
        refine q_iald hE (dlX9_of_0.at 18 rfl) g3 rfl hm (fun hm => ?_)
        exact q_iret (X := fun z => WG V z o) hE (dlX9_of_0.at 19 rfl) hm hQ rfl
      · refine q_tcase hE (dlX9_of_0.at 7 rfl) (2 : Int32) 76 (by decide) hm (fun _ hm => ?_) (fun hn3_2 hm => ?_)
        · refine q_aload_n hE 0 (dlX9_of_0.at 20 rfl) rfl rfl ?_
          refine q_get hE (dlX9_of_0.at 21 rfl) kc9 wf_X9_12 g0 rfl rfl rfl ?_
          refine q_getN hE (dlX9_of_0.at 22 rfl) kc7 wf_X9_77 g1 rfl rfl rfl ?_
          refine q_getN hE (dlX9_of_0.at 23 rfl) kc3 wf_X9_104 g6 rfl rfl rfl ?_
          refine q_iload_n hE 1 (dlX9_of_0.at 24 rfl) rfl rfl ?_
          refine q_iald hE (dlX9_of_0.at 25 rfl) g7 rfl hm (fun hm => ?_)
          exact q_iret (X := fun z => WG V z o) hE (dlX9_of_0.at 26 rfl) hm hQ rfl
        · refine q_tcase hE (dlX9_of_0.at 7 rfl) (3 : Int32) 89 (by decide) hm (fun _ hm => ?_) (fun hn3_3 hm => ?_)
          · refine q_aload_n hE 0 (dlX9_of_0.at 27 rfl) rfl rfl ?_
            refine q_get hE (dlX9_of_0.at 28 rfl) kc9 wf_X9_12 g0 rfl rfl rfl ?_
            refine q_getN hE (dlX9_of_0.at 29 rfl) kc7 wf_X9_77 g1 rfl rfl rfl ?_
            refine q_getN hE (dlX9_of_0.at 30 rfl) kc3 wf_X9_107 g6 rfl rfl rfl ?_
            refine q_iload_n hE 1 (dlX9_of_0.at 31 rfl) rfl rfl ?_
            refine q_zald hE (dlX9_of_0.at 32 rfl) g8 rfl hm (fun hm => ?_)
            refine q_if_eq hE (tgt := 108) (dlX9_of_0.at 33 rfl) (by decide) hm (fun hc4 hm => ?_) (fun hc4 hm => ?_)
            · refine q_iconst hE (dlX9_of_0.at 36 rfl) ic_0 ?_
              exact q_iret (X := fun z => WG V z o) hE (dlX9_of_0.at 37 rfl) hm hQ rfl
            · refine q_iconst hE (dlX9_of_0.at 34 rfl) ic_1 ?_
              refine q_goto hE (tgt := 109) (dlX9_of_0.at 35 rfl) (by decide) ?_
              exact q_iret (X := fun z => WG V z o) hE (dlX9_of_0.at 37 rfl) hm hQ rfl
          · refine q_tcase hE (dlX9_of_0.at 7 rfl) (4 : Int32) 110 (by decide) hm (fun _ hm => ?_) (fun hn3_4 hm => ?_)
            · refine q_aload_n hE 0 (dlX9_of_0.at 38 rfl) rfl rfl ?_
              refine q_get hE (dlX9_of_0.at 39 rfl) kc9 wf_X9_12 g0 rfl rfl rfl ?_
              refine q_aload_n hE 0 (dlX9_of_1.at 0 rfl) rfl rfl ?_
              refine q_get hE (dlX9_of_1.at 1 rfl) kc9 wf_X9_12 g0 rfl rfl rfl ?_
              refine q_getN hE (dlX9_of_1.at 2 rfl) kc7 wf_X9_77 g1 rfl rfl rfl ?_
              refine q_iload_n hE 1 (dlX9_of_1.at 3 rfl) rfl rfl ?_
              refine q_callVN_i (X := fun z => WG V z o) hE (As := [_, _]) (dlX9_of_1.at 4 rfl) mw_X7_leftOf wm_X9_111 rfl rfl rfl rfl (Nat.zero_le _) (Nat.zero_le _) rfl kc7 g1 rfl (ok_X7_leftOf hfx) hm (fun v5 h5 hm => ?_)
              exact q_iret (X := fun z => WG V z o) hE (dlX9_of_1.at 5 rfl) hm hQ rfl
            · refine q_tcase hE (dlX9_of_0.at 7 rfl) (5 : Int32) 126 (by decide) hm (fun _ hm => ?_) (fun hn3_5 hm => ?_)
              · refine q_aload_n hE 0 (dlX9_of_1.at 6 rfl) rfl rfl ?_
                refine q_get hE (dlX9_of_1.at 7 rfl) kc9 wf_X9_12 g0 rfl rfl rfl ?_
                refine q_iload_n hE 1 (dlX9_of_1.at 8 rfl) rfl rfl ?_
                refine q_aload_n hE 0 (dlX9_of_1.at 9 rfl) rfl rfl ?_
                refine q_get hE (dlX9_of_1.at 10 rfl) kc9 wf_X9_12 g0 rfl rfl rfl ?_
                refine q_getN hE (dlX9_of_1.at 11 rfl) kc7 wf_X9_77 g1 rfl rfl rfl ?_
                refine q_getN hE (dlX9_of_1.at 12 rfl) kc3 wf_X9_81 g6 rfl rfl rfl ?_
                refine q_callVN_i (X := fun z => WG V z o) hE (As := [_, _]) (dlX9_of_1.at 13 rfl) mw_X7_holds wm_X9_115 rfl rfl rfl rfl (Nat.zero_le _) (Nat.zero_le _) rfl kc7 g1 rfl (ok_X7_holds hfx) hm (fun v6 h6 hm => ?_)
                exact q_iret (X := fun z => WG V z o) hE (dlX9_of_1.at 14 rfl) hm hQ rfl
              · refine q_tcase hE (dlX9_of_0.at 7 rfl) (6 : Int32) 145 (by decide) hm (fun _ hm => ?_) (fun hn3_6 hm => ?_)
                · refine q_aload_n hE 0 (dlX9_of_1.at 15 rfl) rfl rfl ?_
                  refine q_get hE (dlX9_of_1.at 16 rfl) kc9 wf_X9_47 g0 rfl rfl rfl ?_
                  refine q_iload_n hE 1 (dlX9_of_1.at 17 rfl) rfl rfl ?_
                  refine q_callVN_i (X := fun z => WG V z o) hE (As := [_]) (dlX9_of_1.at 18 rfl) mw_X1_minded wm_X9_119 rfl rfl rfl rfl (Nat.zero_le _) (Nat.zero_le _) rfl kc1 g34 rfl (ok_X1_minded hfx) hm (fun v7 h7 hm => ?_)
                  exact q_iret (X := fun z => WG V z o) hE (dlX9_of_1.at 19 rfl) hm hQ rfl
                · refine q_tcase hE (dlX9_of_0.at 7 rfl) (7 : Int32) 154 (by decide) hm (fun _ hm => ?_) (fun hn3_7 hm => ?_)
                  · refine q_aload_n hE 0 (dlX9_of_1.at 20 rfl) rfl rfl ?_
                    refine q_get hE (dlX9_of_1.at 21 rfl) kc9 wf_X9_47 g0 rfl rfl rfl ?_
                    refine q_iload_n hE 1 (dlX9_of_1.at 22 rfl) rfl rfl ?_
                    refine q_callVN_i (X := fun z => WG V z o) hE (As := [_]) (dlX9_of_1.at 23 rfl) mw_X1_whole wm_X9_123 rfl rfl rfl rfl (Nat.zero_le _) (Nat.zero_le _) rfl kc1 g34 rfl (ok_X1_whole hfx) hm (fun v8 h8 hm => ?_)
                    exact q_iret (X := fun z => WG V z o) hE (dlX9_of_1.at 24 rfl) hm hQ rfl
                  · refine q_tdef hE (tgt := 163) (dlX9_of_0.at 7 rfl) (by have := lv_neT (a := 0) hn3_0 (by decide); have := lv_neT (a := 1) hn3_1 (by decide); have := lv_neT (a := 2) hn3_2 (by decide); have := lv_neT (a := 3) hn3_3 (by decide); have := lv_neT (a := 4) hn3_4 (by decide); have := lv_neT (a := 5) hn3_5 (by decide); have := lv_neT (a := 6) hn3_6 (by decide); have := lv_neT (a := 7) hn3_7 (by decide); omega) (by decide) ?_
                    refine q_iconst hE (dlX9_of_1.at 25 rfl) ic_m1 ?_
                    exact q_iret (X := fun z => WG V z o) hE (dlX9_of_1.at 26 rfl) hm hQ rfl
end
