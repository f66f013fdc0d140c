theorem dX10_goesText_40 : decode cX10_goesText 40 = .ok (.aload_n 0, 1) := by decide +kernel
theorem dX10_goesText_41 : decode cX10_goesText 41 = .ok (.getfield 41, 3) := by decide +kernel
theorem dX10_goesText_44 : decode cX10_goesText 44 = .ok (.aload_n 0, 1) := by decide +kernel
theorem dX10_goesText_45 : decode cX10_goesText 45 = .ok (.getfield 38, 3) := by decide +kernel
theorem dX10_goesText_48 : decode cX10_goesText 48 = .ok (.if_icmp .ne 5, 3) := by decide +kernel
theorem dX10_goesText_51 : decode cX10_goesText 51 = .ok (.iconst 1, 1) := by decide +kernel
theorem dX10_goesText_52 : decode cX10_goesText 52 = .ok (.ireturn, 1) := by decide +kernel
theorem dX10_goesText_53 : decode cX10_goesText 53 = .ok (.iload_n 2, 1) := by decide +kernel
theorem dX10_goesText_54 : decode cX10_goesText 54 = .ok (.bipush 10, 2) := by decide +kernel
theorem dX10_goesText_56 : decode cX10_goesText 56 = .ok (.if_icmp .eq 12, 3) := by decide +kernel
theorem dX10_goesText_59 : decode cX10_goesText 59 = .ok (.aload_n 0, 1) := by decide +kernel
theorem dX10_goesText_60 : decode cX10_goesText 60 = .ok (.bipush 59, 2) := by decide +kernel
theorem dX10_goesText_62 : decode cX10_goesText 62 = .ok (.invokevirtual 232, 3) := by decide +kernel
theorem dX10_goesText_65 : decode cX10_goesText 65 = .ok (.ifCond .ne (-50), 3) := by decide +kernel
theorem dX10_goesText_68 : decode cX10_goesText 68 = .ok (.iconst 0, 1) := by decide +kernel
theorem dX10_goesText_69 : decode cX10_goesText 69 = .ok (.ireturn, 1) := by decide +kernel
theorem dX10_bench_0 : decode cX10_bench 0 = .ok (.aload_n 0, 1) := by decide +kernel
theorem dX10_bench_1 : decode cX10_bench 1 = .ok (.getfield 32, 3) := by decide +kernel
theorem dX10_bench_4 : decode cX10_bench 4 = .ok (.bipush 6, 2) := by decide +kernel
theorem dX10_bench_6 : decode cX10_bench 6 = .ok (.if_icmp .ne 6, 3) := by decide +kernel
theorem dX10_bench_9 : decode cX10_bench 9 = .ok (.bipush (-4), 2) := by decide +kernel
theorem dX10_bench_11 : decode cX10_bench 11 = .ok (.ireturn, 1) := by decide +kernel
theorem dX10_bench_12 : decode cX10_bench 12 = .ok (.aload_n 0, 1) := by decide +kernel
theorem dX10_bench_13 : decode cX10_bench 13 = .ok (.aload_n 0, 1) := by decide +kernel
theorem dX10_bench_14 : decode cX10_bench 14 = .ok (.getfield 32, 3) := by decide +kernel
theorem dX10_bench_17 : decode cX10_bench 17 = .ok (.invokevirtual 271, 3) := by decide +kernel
theorem dX10_bench_20 : decode cX10_bench 20 = .ok (.istore_n 1, 1) := by decide +kernel
theorem dX10_bench_21 : decode cX10_bench 21 = .ok (.aload_n 0, 1) := by decide +kernel
theorem dX10_bench_22 : decode cX10_bench 22 = .ok (.iconst 0, 1) := by decide +kernel
theorem dX10_bench_23 : decode cX10_bench 23 = .ok (.putfield 38, 3) := by decide +kernel
theorem dX10_bench_26 : decode cX10_bench 26 = .ok (.iload_n 1, 1) := by decide +kernel
theorem dX10_bench_27 : decode cX10_bench 27 = .ok (.ifCond .ne 11, 3) := by decide +kernel
theorem dX10_bench_30 : decode cX10_bench 30 = .ok (.bipush (-10), 2) := by decide +kernel
theorem dX10_bench_32 : decode cX10_bench 32 = .ok (.aload_n 0, 1) := by decide +kernel
theorem dX10_bench_33 : decode cX10_bench 33 = .ok (.getfield 41, 3) := by decide +kernel
theorem dX10_bench_36 : decode cX10_bench 36 = .ok (.isub, 1) := by decide +kernel
theorem dX10_bench_37 : decode cX10_bench 37 = .ok (.ireturn, 1) := by decide +kernel
theorem dX10_bench_38 : decode cX10_bench 38 = .ok (.aload_n 0, 1) := by decide +kernel
theorem dX10_bench_39 : decode cX10_bench 39 = .ok (.aload_n 0, 1) := by decide +kernel
theorem dX10_bench_40 : decode cX10_bench 40 = .ok (.getfield 32, 3) := by decide +kernel
theorem dX10_bench_43 : decode cX10_bench 43 = .ok (.putfield 35, 3) := by decide +kernel
theorem dX10_bench_46 : decode cX10_bench 46 = .ok (.aload_n 0, 1) := by decide +kernel
theorem dX10_bench_47 : decode cX10_bench 47 = .ok (.dup, 1) := by decide +kernel
theorem dX10_bench_48 : decode cX10_bench 48 = .ok (.getfield 32, 3) := by decide +kernel
theorem dX10_bench_51 : decode cX10_bench 51 = .ok (.iconst 1, 1) := by decide +kernel
theorem dX10_bench_52 : decode cX10_bench 52 = .ok (.iadd, 1) := by decide +kernel
theorem dX10_bench_53 : decode cX10_bench 53 = .ok (.putfield 32, 3) := by decide +kernel
theorem dX10_bench_56 : decode cX10_bench 56 = .ok (.aload_n 0, 1) := by decide +kernel
theorem dX10_bench_57 : decode cX10_bench 57 = .ok (.getfield 35, 3) := by decide +kernel
theorem dX10_bench_60 : decode cX10_bench 60 = .ok (.ireturn, 1) := by decide +kernel
theorem dX10_begin_0 : decode cX10_begin 0 = .ok (.aload_n 0, 1) := by decide +kernel
theorem dX10_begin_1 : decode cX10_begin 1 = .ok (.getfield 35, 3) := by decide +kernel
theorem dX10_begin_4 : decode cX10_begin 4 = .ok (.ifCond .ge 7, 3) := by decide +kernel
theorem dX10_begin_7 : decode cX10_begin 7 = .ok (.iconst 0, 1) := by decide +kernel
theorem dX10_begin_8 : decode cX10_begin 8 = .ok (.goto 10, 3) := by decide +kernel
theorem dX10_begin_11 : decode cX10_begin 11 = .ok (.bipush 10, 2) := by decide +kernel
theorem dX10_begin_13 : decode cX10_begin 13 = .ok (.aload_n 0, 1) := by decide +kernel
theorem dX10_begin_14 : decode cX10_begin 14 = .ok (.getfield 35, 3) := by decide +kernel
theorem dX10_begin_17 : decode cX10_begin 17 = .ok (.imul, 1) := by decide +kernel
theorem dX10_begin_18 : decode cX10_begin 18 = .ok (.ireturn, 1) := by decide +kernel
theorem dX10_behind_0 : decode cX10_behind 0 = .ok (.aload_n 0, 1) := by decide +kernel
theorem dX10_behind_1 : decode cX10_behind 1 = .ok (.getfield 35, 3) := by decide +kernel
theorem dX10_behind_4 : decode cX10_behind 4 = .ok (.ifCond .ge 7, 3) := by decide +kernel
theorem dX10_behind_7 : decode cX10_behind 7 = .ok (.iconst 0, 1) := by decide +kernel
theorem dX10_behind_8 : decode cX10_behind 8 = .ok (.goto 20, 3) := by decide +kernel
theorem dX10_behind_11 : decode cX10_behind 11 = .ok (.bipush 10, 2) := by decide +kernel
theorem dX10_behind_13 : decode cX10_behind 13 = .ok (.aload_n 0, 1) := by decide +kernel
theorem dX10_behind_14 : decode cX10_behind 14 = .ok (.getfield 35, 3) := by decide +kernel
theorem dX10_behind_17 : decode cX10_behind 17 = .ok (.imul, 1) := by decide +kernel
theorem dX10_behind_18 : decode cX10_behind 18 = .ok (.aload_n 0, 1) := by decide +kernel
theorem dX10_behind_19 : decode cX10_behind 19 = .ok (.getfield 50, 3) := by decide +kernel
theorem dX10_behind_22 : decode cX10_behind 22 = .ok (.aload_n 0, 1) := by decide +kernel
theorem dX10_behind_23 : decode cX10_behind 23 = .ok (.getfield 35, 3) := by decide +kernel
theorem dX10_behind_26 : decode cX10_behind 26 = .ok (.iaload, 1) := by decide +kernel
theorem dX10_behind_27 : decode cX10_behind 27 = .ok (.iadd, 1) := by decide +kernel
theorem dX10_behind_28 : decode cX10_behind 28 = .ok (.ireturn, 1) := by decide +kernel
theorem dX10_pace_0 : decode cX10_pace 0 = .ok (.bipush 10, 2) := by decide +kernel
theorem dX10_pace_2 : decode cX10_pace 2 = .ok (.istore_n 1, 1) := by decide +kernel
theorem dX10_pace_3 : decode cX10_pace 3 = .ok (.aload_n 0, 1) := by decide +kernel
theorem dX10_pace_4 : decode cX10_pace 4 = .ok (.invokevirtual 274, 3) := by decide +kernel
theorem dX10_pace_7 : decode cX10_pace 7 = .ok (.istore_n 2, 1) := by decide +kernel
theorem dX10_pace_8 : decode cX10_pace 8 = .ok (.iload_n 2, 1) := by decide +kernel
theorem dX10_pace_9 : decode cX10_pace 9 = .ok (.aload_n 0, 1) := by decide +kernel
theorem dX10_pace_10 : decode cX10_pace 10 = .ok (.invokevirtual 277, 3) := by decide +kernel
theorem dX10_pace_13 : decode cX10_pace 13 = .ok (.if_icmp .ge 30, 3) := by decide +kernel
theorem dX10_pace_16 : decode cX10_pace 16 = .ok (.aload_n 0, 1) := by decide +kernel
theorem dX10_pace_17 : decode cX10_pace 17 = .ok (.getfield 53, 3) := by decide +kernel
theorem dX10_pace_20 : decode cX10_pace 20 = .ok (.iload_n 2, 1) := by decide +kernel
theorem dX10_pace_21 : decode cX10_pace 21 = .ok (.iaload, 1) := by decide +kernel
theorem dX10_pace_22 : decode cX10_pace 22 = .ok (.iconst 2, 1) := by decide +kernel
theorem dX10_pace_23 : decode cX10_pace 23 = .ok (.if_icmp .ne 12, 3) := by decide +kernel
theorem dX10_pace_26 : decode cX10_pace 26 = .ok (.aload_n 0, 1) := by decide +kernel
theorem dX10_pace_27 : decode cX10_pace 27 = .ok (.getfield 56, 3) := by decide +kernel
theorem dX10_pace_30 : decode cX10_pace 30 = .ok (.iload_n 2, 1) := by decide +kernel
theorem dX10_pace_31 : decode cX10_pace 31 = .ok (.iaload, 1) := by decide +kernel
theorem dX10_pace_32 : decode cX10_pace 32 = .ok (.goto 4, 3) := by decide +kernel
theorem dX10_pace_35 : decode cX10_pace 35 = .ok (.iload_n 1, 1) := by decide +kernel
theorem dX10_pace_36 : decode cX10_pace 36 = .ok (.istore_n 1, 1) := by decide +kernel
theorem dX10_pace_37 : decode cX10_pace 37 = .ok (.iinc 2 1, 3) := by decide +kernel
theorem dX10_pace_40 : decode cX10_pace 40 = .ok (.goto (-32), 3) := by decide +kernel
theorem dX10_pace_43 : decode cX10_pace 43 = .ok (.iload_n 1, 1) := by decide +kernel
theorem dX10_pace_44 : decode cX10_pace 44 = .ok (.iconst 1, 1) := by decide +kernel
theorem dX10_pace_45 : decode cX10_pace 45 = .ok (.if_icmp .ge 7, 3) := by decide +kernel
theorem dX10_pace_48 : decode cX10_pace 48 = .ok (.iconst 1, 1) := by decide +kernel
theorem dX10_pace_49 : decode cX10_pace 49 = .ok (.goto 4, 3) := by decide +kernel
theorem dX10_pace_52 : decode cX10_pace 52 = .ok (.iload_n 1, 1) := by decide +kernel
theorem dX10_pace_53 : decode cX10_pace 53 = .ok (.ireturn, 1) := by decide +kernel
theorem dX10_factOf_0 : decode cX10_factOf 0 = .ok (.iload_n 1, 1) := by decide +kernel
theorem dX10_factOf_1 : decode cX10_factOf 1 = .ok (.tableswitch 64 0 4 #[35, 37, 44, 51, 56], 35) := by decide +kernel
theorem dX10_factOf_36 : decode cX10_factOf 36 = .ok (.iload_n 2, 1) := by decide +kernel
theorem dX10_factOf_37 : decode cX10_factOf 37 = .ok (.ireturn, 1) := by decide +kernel
theorem dX10_factOf_38 : decode cX10_factOf 38 = .ok (.aload_n 0, 1) := by decide +kernel
theorem dX10_factOf_39 : decode cX10_factOf 39 = .ok (.getfield 19, 3) := by decide +kernel
theorem dX10_factOf_42 : decode cX10_factOf 42 = .ok (.iload_n 2, 1) := by decide +kernel
theorem dX10_factOf_43 : decode cX10_factOf 43 = .ok (.iaload, 1) := by decide +kernel
theorem dX10_factOf_44 : decode cX10_factOf 44 = .ok (.ireturn, 1) := by decide +kernel
theorem dX10_factOf_45 : decode cX10_factOf 45 = .ok (.aload_n 0, 1) := by decide +kernel
theorem dX10_factOf_46 : decode cX10_factOf 46 = .ok (.getfield 23, 3) := by decide +kernel
theorem dX10_factOf_49 : decode cX10_factOf 49 = .ok (.iload_n 2, 1) := by decide +kernel
theorem dX10_factOf_50 : decode cX10_factOf 50 = .ok (.iaload, 1) := by decide +kernel
theorem dX10_factOf_51 : decode cX10_factOf 51 = .ok (.ireturn, 1) := by decide +kernel
theorem dX10_factOf_52 : decode cX10_factOf 52 = .ok (.iload_n 3, 1) := by decide +kernel
theorem dX10_factOf_53 : decode cX10_factOf 53 = .ok (.bipush 10, 2) := by decide +kernel
theorem dX10_factOf_55 : decode cX10_factOf 55 = .ok (.irem, 1) := by decide +kernel
theorem dX10_factOf_56 : decode cX10_factOf 56 = .ok (.ireturn, 1) := by decide +kernel
theorem dX10_factOf_57 : decode cX10_factOf 57 = .ok (.iload_n 3, 1) := by decide +kernel
theorem dX10_factOf_58 : decode cX10_factOf 58 = .ok (.bipush 10, 2) := by decide +kernel
theorem dX10_factOf_60 : decode cX10_factOf 60 = .ok (.idiv, 1) := by decide +kernel
theorem dX10_factOf_61 : decode cX10_factOf 61 = .ok (.bipush 10, 2) := by decide +kernel
theorem dX10_factOf_63 : decode cX10_factOf 63 = .ok (.irem, 1) := by decide +kernel
theorem dX10_factOf_64 : decode cX10_factOf 64 = .ok (.ireturn, 1) := by decide +kernel
theorem dX10_factOf_65 : decode cX10_factOf 65 = .ok (.iload_n 3, 1) := by decide +kernel
theorem dX10_factOf_66 : decode cX10_factOf 66 = .ok (.bipush 100, 2) := by decide +kernel
theorem dX10_factOf_68 : decode cX10_factOf 68 = .ok (.irem, 1) := by decide +kernel
theorem dX10_factOf_69 : decode cX10_factOf 69 = .ok (.ireturn, 1) := by decide +kernel
theorem dX10_holds_0 : decode cX10_holds 0 = .ok (.iconst 0, 1) := by decide +kernel
theorem dX10_holds_1 : decode cX10_holds 1 = .ok (.istore 4, 2) := by decide +kernel
theorem dX10_holds_3 : decode cX10_holds 3 = .ok (.aload_n 0, 1) := by decide +kernel
theorem dX10_holds_4 : decode cX10_holds 4 = .ok (.getfield 59, 3) := by decide +kernel
theorem dX10_holds_7 : decode cX10_holds 7 = .ok (.iload_n 1, 1) := by decide +kernel
theorem dX10_holds_8 : decode cX10_holds 8 = .ok (.iaload, 1) := by decide +kernel
theorem dX10_holds_9 : decode cX10_holds 9 = .ok (.istore 5, 2) := by decide +kernel
theorem dX10_holds_11 : decode cX10_holds 11 = .ok (.iload 5, 2) := by decide +kernel
theorem dX10_holds_13 : decode cX10_holds 13 = .ok (.aload_n 0, 1) := by decide +kernel
theorem dX10_holds_14 : decode cX10_holds 14 = .ok (.getfield 62, 3) := by decide +kernel
theorem dX10_holds_17 : decode cX10_holds 17 = .ok (.iload_n 1, 1) := by decide +kernel
theorem dX10_holds_18 : decode cX10_holds 18 = .ok (.iaload, 1) := by decide +kernel
theorem dX10_holds_19 : decode cX10_holds 19 = .ok (.if_icmp .ge 234, 3) := by decide +kernel
theorem dX10_holds_22 : decode cX10_holds 22 = .ok (.aload_n 0, 1) := by decide +kernel
theorem dX10_holds_23 : decode cX10_holds 23 = .ok (.getfield 65, 3) := by decide +kernel
theorem dX10_holds_26 : decode cX10_holds 26 = .ok (.iload 5, 2) := by decide +kernel
theorem dX10_holds_28 : decode cX10_holds 28 = .ok (.iaload, 1) := by decide +kernel
theorem dX10_holds_29 : decode cX10_holds 29 = .ok (.istore 6, 2) := by decide +kernel
theorem dX10_holds_31 : decode cX10_holds 31 = .ok (.iload 6, 2) := by decide +kernel
theorem dX10_holds_33 : decode cX10_holds 33 = .ok (.bipush (-33), 2) := by decide +kernel
theorem dX10_holds_35 : decode cX10_holds 35 = .ok (.if_icmp .ne 32, 3) := by decide +kernel
theorem dX10_holds_38 : decode cX10_holds 38 = .ok (.aload_n 0, 1) := by decide +kernel
theorem dX10_holds_39 : decode cX10_holds 39 = .ok (.getfield 83, 3) := by decide +kernel
theorem dX10_holds_42 : decode cX10_holds 42 = .ok (.iload 4, 2) := by decide +kernel
theorem dX10_holds_44 : decode cX10_holds 44 = .ok (.iconst 1, 1) := by decide +kernel
theorem dX10_holds_45 : decode cX10_holds 45 = .ok (.isub, 1) := by decide +kernel
theorem dX10_holds_46 : decode cX10_holds 46 = .ok (.aload_n 0, 1) := by decide +kernel
theorem dX10_holds_47 : decode cX10_holds 47 = .ok (.getfield 83, 3) := by decide +kernel
theorem dX10_holds_50 : decode cX10_holds 50 = .ok (.iload 4, 2) := by decide +kernel
theorem dX10_holds_52 : decode cX10_holds 52 = .ok (.iconst 1, 1) := by decide +kernel
theorem dX10_holds_53 : decode cX10_holds 53 = .ok (.isub, 1) := by decide +kernel
theorem dX10_holds_54 : decode cX10_holds 54 = .ok (.baload, 1) := by decide +kernel
theorem dX10_holds_55 : decode cX10_holds 55 = .ok (.ifCond .ne 7, 3) := by decide +kernel
theorem dX10_holds_58 : decode cX10_holds 58 = .ok (.iconst 1, 1) := by decide +kernel
theorem dX10_holds_59 : decode cX10_holds 59 = .ok (.goto 4, 3) := by decide +kernel
theorem dX10_holds_62 : decode cX10_holds 62 = .ok (.iconst 0, 1) := by decide +kernel
theorem dX10_holds_63 : decode cX10_holds 63 = .ok (.bastore, 1) := by decide +kernel
theorem dX10_holds_64 : decode cX10_holds 64 = .ok (.goto 183, 3) := by decide +kernel
theorem dX10_holds_67 : decode cX10_holds 67 = .ok (.iload 6, 2) := by decide +kernel
theorem dX10_holds_69 : decode cX10_holds 69 = .ok (.ifCond .ge 82, 3) := by decide +kernel
theorem dX10_holds_72 : decode cX10_holds 72 = .ok (.iinc 4 (-1), 3) := by decide +kernel
theorem dX10_holds_75 : decode cX10_holds 75 = .ok (.aload_n 0, 1) := by decide +kernel
theorem dX10_holds_76 : decode cX10_holds 76 = .ok (.getfield 83, 3) := by decide +kernel
theorem dX10_holds_79 : decode cX10_holds 79 = .ok (.iload 4, 2) := by decide +kernel
theorem dX10_holds_81 : decode cX10_holds 81 = .ok (.iconst 1, 1) := by decide +kernel
theorem dX10_holds_82 : decode cX10_holds 82 = .ok (.isub, 1) := by decide +kernel
theorem dX10_holds_83 : decode cX10_holds 83 = .ok (.iload 6, 2) := by decide +kernel
theorem dX10_holds_85 : decode cX10_holds 85 = .ok (.bipush (-38), 2) := by decide +kernel
theorem dX10_holds_87 : decode cX10_holds 87 = .ok (.if_icmp .ne 33, 3) := by decide +kernel
theorem dX10_holds_90 : decode cX10_holds 90 = .ok (.aload_n 0, 1) := by decide +kernel
theorem dX10_holds_91 : decode cX10_holds 91 = .ok (.getfield 83, 3) := by decide +kernel
theorem dX10_holds_94 : decode cX10_holds 94 = .ok (.iload 4, 2) := by decide +kernel
theorem dX10_holds_96 : decode cX10_holds 96 = .ok (.iconst 1, 1) := by decide +kernel
theorem dX10_holds_97 : decode cX10_holds 97 = .ok (.isub, 1) := by decide +kernel
theorem dX10_holds_98 : decode cX10_holds 98 = .ok (.baload, 1) := by decide +kernel
theorem dX10_holds_99 : decode cX10_holds 99 = .ok (.ifCond .eq 17, 3) := by decide +kernel
theorem dX10_holds_102 : decode cX10_holds 102 = .ok (.aload_n 0, 1) := by decide +kernel
theorem dX10_holds_103 : decode cX10_holds 103 = .ok (.getfield 83, 3) := by decide +kernel
theorem dX10_holds_106 : decode cX10_holds 106 = .ok (.iload 4, 2) := by decide +kernel
theorem dX10_holds_108 : decode cX10_holds 108 = .ok (.baload, 1) := by decide +kernel
theorem dX10_holds_109 : decode cX10_holds 109 = .ok (.ifCond .eq 7, 3) := by decide +kernel
theorem dX10_holds_112 : decode cX10_holds 112 = .ok (.iconst 1, 1) := by decide +kernel
theorem dX10_holds_113 : decode cX10_holds 113 = .ok (.goto 34, 3) := by decide +kernel
theorem dX10_holds_116 : decode cX10_holds 116 = .ok (.iconst 0, 1) := by decide +kernel
theorem dX10_holds_117 : decode cX10_holds 117 = .ok (.goto 30, 3) := by decide +kernel
theorem dX10_holds_120 : decode cX10_holds 120 = .ok (.aload_n 0, 1) := by decide +kernel
theorem dX10_holds_121 : decode cX10_holds 121 = .ok (.getfield 83, 3) := by decide +kernel
theorem dX10_holds_124 : decode cX10_holds 124 = .ok (.iload 4, 2) := by decide +kernel
theorem dX10_holds_126 : decode cX10_holds 126 = .ok (.iconst 1, 1) := by decide +kernel
theorem dX10_holds_127 : decode cX10_holds 127 = .ok (.isub, 1) := by decide +kernel
theorem dX10_holds_128 : decode cX10_holds 128 = .ok (.baload, 1) := by decide +kernel
theorem dX10_holds_129 : decode cX10_holds 129 = .ok (.ifCond .ne 13, 3) := by decide +kernel
theorem dX10_holds_132 : decode cX10_holds 132 = .ok (.aload_n 0, 1) := by decide +kernel
theorem dX10_holds_133 : decode cX10_holds 133 = .ok (.getfield 83, 3) := by decide +kernel
theorem dX10_holds_136 : decode cX10_holds 136 = .ok (.iload 4, 2) := by decide +kernel
theorem dX10_holds_138 : decode cX10_holds 138 = .ok (.baload, 1) := by decide +kernel
theorem dX10_holds_139 : decode cX10_holds 139 = .ok (.ifCond .eq 7, 3) := by decide +kernel
theorem dX10_holds_142 : decode cX10_holds 142 = .ok (.iconst 1, 1) := by decide +kernel
theorem dX10_holds_143 : decode cX10_holds 143 = .ok (.goto 4, 3) := by decide +kernel
theorem dX10_holds_146 : decode cX10_holds 146 = .ok (.iconst 0, 1) := by decide +kernel
theorem dX10_holds_147 : decode cX10_holds 147 = .ok (.bastore, 1) := by decide +kernel
theorem dX10_holds_148 : decode cX10_holds 148 = .ok (.goto 99, 3) := by decide +kernel
theorem dX10_holds_151 : decode cX10_holds 151 = .ok (.aload_n 0, 1) := by decide +kernel
theorem dX10_holds_152 : decode cX10_holds 152 = .ok (.iload 6, 2) := by decide +kernel
theorem dX10_holds_154 : decode cX10_holds 154 = .ok (.sipush 1000, 3) := by decide +kernel
theorem dX10_holds_157 : decode cX10_holds 157 = .ok (.idiv, 1) := by decide +kernel
theorem dX10_holds_158 : decode cX10_holds 158 = .ok (.iload_n 2, 1) := by decide +kernel
theorem dX10_holds_159 : decode cX10_holds 159 = .ok (.iload_n 3, 1) := by decide +kernel
theorem dX10_holds_160 : decode cX10_holds 160 = .ok (.invokevirtual 280, 3) := by decide +kernel
theorem dX10_holds_163 : decode cX10_holds 163 = .ok (.istore 7, 2) := by decide +kernel
theorem dX10_holds_165 : decode cX10_holds 165 = .ok (.iload 6, 2) := by decide +kernel
theorem dX10_holds_167 : decode cX10_holds 167 = .ok (.bipush 100, 2) := by decide +kernel
theorem dX10_holds_169 : decode cX10_holds 169 = .ok (.idiv, 1) := by decide +kernel
theorem dX10_holds_170 : decode cX10_holds 170 = .ok (.bipush 10, 2) := by decide +kernel
theorem dX10_holds_172 : decode cX10_holds 172 = .ok (.irem, 1) := by decide +kernel
theorem dX10_holds_173 : decode cX10_holds 173 = .ok (.istore 8, 2) := by decide +kernel
theorem dX10_holds_175 : decode cX10_holds 175 = .ok (.aload_n 0, 1) := by decide +kernel
theorem dX10_holds_176 : decode cX10_holds 176 = .ok (.getfield 83, 3) := by decide +kernel
theorem dX10_holds_179 : decode cX10_holds 179 = .ok (.iload 4, 2) := by decide +kernel
theorem dX10_holds_181 : decode cX10_holds 181 = .ok (.iload 8, 2) := by decide +kernel
theorem dX10_holds_183 : decode cX10_holds 183 = .ok (.ifCond .ne 21, 3) := by decide +kernel
theorem dX10_holds_186 : decode cX10_holds 186 = .ok (.iload 7, 2) := by decide +kernel
theorem dX10_holds_188 : decode cX10_holds 188 = .ok (.iload 6, 2) := by decide +kernel
theorem dX10_holds_190 : decode cX10_holds 190 = .ok (.bipush 100, 2) := by decide +kernel
theorem dX10_holds_192 : decode cX10_holds 192 = .ok (.irem, 1) := by decide +kernel
theorem dX10_holds_193 : decode cX10_holds 193 = .ok (.if_icmp .ge 7, 3) := by decide +kernel
theorem dX10_holds_196 : decode cX10_holds 196 = .ok (.iconst 1, 1) := by decide +kernel
theorem dX10_holds_197 : decode cX10_holds 197 = .ok (.goto 46, 3) := by decide +kernel
theorem dX10_holds_200 : decode cX10_holds 200 = .ok (.iconst 0, 1) := by decide +kernel
theorem dX10_holds_201 : decode cX10_holds 201 = .ok (.goto 42, 3) := by decide +kernel
theorem dX10_holds_204 : decode cX10_holds 204 = .ok (.iload 8, 2) := by decide +kernel
theorem dX10_holds_206 : decode cX10_holds 206 = .ok (.iconst 1, 1) := by decide +kernel
theorem dX10_holds_207 : decode cX10_holds 207 = .ok (.if_icmp .ne 21, 3) := by decide +kernel
theorem dX10_holds_210 : decode cX10_holds 210 = .ok (.iload 7, 2) := by decide +kernel
theorem dX10_holds_212 : decode cX10_holds 212 = .ok (.iload 6, 2) := by decide +kernel
theorem dX10_holds_214 : decode cX10_holds 214 = .ok (.bipush 100, 2) := by decide +kernel
theorem dX10_holds_216 : decode cX10_holds 216 = .ok (.irem, 1) := by decide +kernel
theorem dX10_holds_217 : decode cX10_holds 217 = .ok (.if_icmp .ne 7, 3) := by decide +kernel
theorem dX10_holds_220 : decode cX10_holds 220 = .ok (.iconst 1, 1) := by decide +kernel
theorem dX10_holds_221 : decode cX10_holds 221 = .ok (.goto 22, 3) := by decide +kernel
theorem dX10_holds_224 : decode cX10_holds 224 = .ok (.iconst 0, 1) := by decide +kernel
theorem dX10_holds_225 : decode cX10_holds 225 = .ok (.goto 18, 3) := by decide +kernel
theorem dX10_holds_228 : decode cX10_holds 228 = .ok (.iload 7, 2) := by decide +kernel
theorem dX10_holds_230 : decode cX10_holds 230 = .ok (.iload 6, 2) := by decide +kernel
theorem dX10_holds_232 : decode cX10_holds 232 = .ok (.bipush 100, 2) := by decide +kernel
theorem dX10_holds_234 : decode cX10_holds 234 = .ok (.irem, 1) := by decide +kernel
theorem dX10_holds_235 : decode cX10_holds 235 = .ok (.if_icmp .le 7, 3) := by decide +kernel
theorem dX10_holds_238 : decode cX10_holds 238 = .ok (.iconst 1, 1) := by decide +kernel
theorem dX10_holds_239 : decode cX10_holds 239 = .ok (.goto 4, 3) := by decide +kernel
theorem dX10_holds_242 : decode cX10_holds 242 = .ok (.iconst 0, 1) := by decide +kernel
theorem dX10_holds_243 : decode cX10_holds 243 = .ok (.bastore, 1) := by decide +kernel
theorem dX10_holds_244 : decode cX10_holds 244 = .ok (.iinc 4 1, 3) := by decide +kernel
theorem dX10_holds_247 : decode cX10_holds 247 = .ok (.iinc 5 1, 3) := by decide +kernel
theorem dX10_holds_250 : decode cX10_holds 250 = .ok (.goto (-239), 3) := by decide +kernel
theorem dX10_holds_253 : decode cX10_holds 253 = .ok (.aload_n 0, 1) := by decide +kernel
theorem dX10_holds_254 : decode cX10_holds 254 = .ok (.getfield 83, 3) := by decide +kernel
theorem dX10_holds_257 : decode cX10_holds 257 = .ok (.iconst 0, 1) := by decide +kernel
theorem dX10_holds_258 : decode cX10_holds 258 = .ok (.baload, 1) := by decide +kernel
theorem dX10_holds_259 : decode cX10_holds 259 = .ok (.ireturn, 1) := by decide +kernel
theorem dX10_newsNow_0 : decode cX10_newsNow 0 = .ok (.iconst 1, 1) := by decide +kernel
theorem dX10_newsNow_1 : decode cX10_newsNow 1 = .ok (.istore_n 3, 1) := by decide +kernel
theorem dX10_newsNow_2 : decode cX10_newsNow 2 = .ok (.aload_n 0, 1) := by decide +kernel
theorem dX10_newsNow_3 : decode cX10_newsNow 3 = .ok (.invokevirtual 274, 3) := by decide +kernel
theorem dX10_newsNow_6 : decode cX10_newsNow 6 = .ok (.istore 4, 2) := by decide +kernel
theorem dX10_newsNow_8 : decode cX10_newsNow 8 = .ok (.iload 4, 2) := by decide +kernel
theorem dX10_newsNow_10 : decode cX10_newsNow 10 = .ok (.aload_n 0, 1) := by decide +kernel
theorem dX10_newsNow_11 : decode cX10_newsNow 11 = .ok (.invokevirtual 277, 3) := by decide +kernel
theorem dX10_newsNow_14 : decode cX10_newsNow 14 = .ok (.if_icmp .ge 65, 3) := by decide +kernel
theorem dX10_newsNow_17 : decode cX10_newsNow 17 = .ok (.aload_n 0, 1) := by decide +kernel
theorem dX10_newsNow_18 : decode cX10_newsNow 18 = .ok (.getfield 53, 3) := by decide +kernel
theorem dX10_newsNow_21 : decode cX10_newsNow 21 = .ok (.iload 4, 2) := by decide +kernel
theorem dX10_newsNow_23 : decode cX10_newsNow 23 = .ok (.iaload, 1) := by decide +kernel
theorem dX10_newsNow_24 : decode cX10_newsNow 24 = .ok (.iconst 1, 1) := by decide +kernel
theorem dX10_newsNow_25 : decode cX10_newsNow 25 = .ok (.if_icmp .gt 48, 3) := by decide +kernel
theorem dX10_newsNow_28 : decode cX10_newsNow 28 = .ok (.aload_n 0, 1) := by decide +kernel
theorem dX10_newsNow_29 : decode cX10_newsNow 29 = .ok (.iload 4, 2) := by decide +kernel
theorem dX10_newsNow_31 : decode cX10_newsNow 31 = .ok (.iload_n 1, 1) := by decide +kernel
theorem dX10_newsNow_32 : decode cX10_newsNow 32 = .ok (.iload_n 2, 1) := by decide +kernel
theorem dX10_newsNow_33 : decode cX10_newsNow 33 = .ok (.invokevirtual 284, 3) := by decide +kernel
theorem dX10_newsNow_36 : decode cX10_newsNow 36 = .ok (.ifCond .ne 6, 3) := by decide +kernel
theorem dX10_newsNow_39 : decode cX10_newsNow 39 = .ok (.goto 34, 3) := by decide +kernel
theorem dX10_newsNow_42 : decode cX10_newsNow 42 = .ok (.iload_n 3, 1) := by decide +kernel
theorem dX10_newsNow_43 : decode cX10_newsNow 43 = .ok (.aload_n 0, 1) := by decide +kernel
theorem dX10_newsNow_44 : decode cX10_newsNow 44 = .ok (.getfield 53, 3) := by decide +kernel
theorem dX10_newsNow_47 : decode cX10_newsNow 47 = .ok (.iload 4, 2) := by decide +kernel
theorem dX10_newsNow_49 : decode cX10_newsNow 49 = .ok (.iaload, 1) := by decide +kernel
theorem dX10_newsNow_50 : decode cX10_newsNow 50 = .ok (.ifCond .ne 13, 3) := by decide +kernel
theorem dX10_newsNow_53 : decode cX10_newsNow 53 = .ok (.aload_n 0, 1) := by decide +kernel
theorem dX10_newsNow_54 : decode cX10_newsNow 54 = .ok (.getfield 56, 3) := by decide +kernel
theorem dX10_newsNow_57 : decode cX10_newsNow 57 = .ok (.iload 4, 2) := by decide +kernel
theorem dX10_newsNow_59 : decode cX10_newsNow 59 = .ok (.iaload, 1) := by decide +kernel
theorem dX10_newsNow_60 : decode cX10_newsNow 60 = .ok (.goto 11, 3) := by decide +kernel
theorem dX10_newsNow_63 : decode cX10_newsNow 63 = .ok (.aload_n 0, 1) := by decide +kernel
theorem dX10_newsNow_64 : decode cX10_newsNow 64 = .ok (.getfield 56, 3) := by decide +kernel
theorem dX10_newsNow_67 : decode cX10_newsNow 67 = .ok (.iload 4, 2) := by decide +kernel
theorem dX10_newsNow_69 : decode cX10_newsNow 69 = .ok (.iaload, 1) := by decide +kernel
theorem dX10_newsNow_70 : decode cX10_newsNow 70 = .ok (.ineg, 1) := by decide +kernel
theorem dX10_newsNow_71 : decode cX10_newsNow 71 = .ok (.iadd, 1) := by decide +kernel
theorem dX10_newsNow_72 : decode cX10_newsNow 72 = .ok (.istore_n 3, 1) := by decide +kernel
theorem dX10_newsNow_73 : decode cX10_newsNow 73 = .ok (.iinc 4 1, 3) := by decide +kernel
theorem dX10_newsNow_76 : decode cX10_newsNow 76 = .ok (.goto (-68), 3) := by decide +kernel
theorem dX10_newsNow_79 : decode cX10_newsNow 79 = .ok (.iload_n 3, 1) := by decide +kernel
theorem dX10_newsNow_80 : decode cX10_newsNow 80 = .ok (.ifCond .ge 7, 3) := by decide +kernel
theorem dX10_newsNow_83 : decode cX10_newsNow 83 = .ok (.iconst 0, 1) := by decide +kernel
theorem dX10_newsNow_84 : decode cX10_newsNow 84 = .ok (.goto 4, 3) := by decide +kernel
theorem dX10_newsNow_87 : decode cX10_newsNow 87 = .ok (.iload_n 3, 1) := by decide +kernel
theorem dX10_newsNow_88 : decode cX10_newsNow 88 = .ok (.ireturn, 1) := by decide +kernel
theorem dX10_layNews_0 : decode cX10_layNews 0 = .ok (.iconst 0, 1) := by decide +kernel
theorem dX10_layNews_1 : decode cX10_layNews 1 = .ok (.istore_n 1, 1) := by decide +kernel
theorem dX10_layNews_2 : decode cX10_layNews 2 = .ok (.iload_n 1, 1) := by decide +kernel
theorem dX10_layNews_3 : decode cX10_layNews 3 = .ok (.aload_n 0, 1) := by decide +kernel
theorem dX10_layNews_4 : decode cX10_layNews 4 = .ok (.getfield 7, 3) := by decide +kernel
theorem dX10_layNews_7 : decode cX10_layNews 7 = .ok (.if_icmp .ge 61, 3) := by decide +kernel
theorem dX10_layNews_10 : decode cX10_layNews 10 = .ok (.aload_n 0, 1) := by decide +kernel
theorem dX10_layNews_11 : decode cX10_layNews 11 = .ok (.getfield 94, 3) := by decide +kernel
theorem dX10_layNews_14 : decode cX10_layNews 14 = .ok (.iload_n 1, 1) := by decide +kernel
theorem dX10_layNews_15 : decode cX10_layNews 15 = .ok (.aload_n 0, 1) := by decide +kernel
theorem dX10_layNews_16 : decode cX10_layNews 16 = .ok (.getfield 26, 3) := by decide +kernel
theorem dX10_layNews_19 : decode cX10_layNews 19 = .ok (.iload_n 1, 1) := by decide +kernel
theorem dX10_layNews_20 : decode cX10_layNews 20 = .ok (.iaload, 1) := by decide +kernel
theorem dX10_layNews_21 : decode cX10_layNews 21 = .ok (.iastore, 1) := by decide +kernel
theorem dX10_layNews_22 : decode cX10_layNews 22 = .ok (.iconst 0, 1) := by decide +kernel
theorem dX10_layNews_23 : decode cX10_layNews 23 = .ok (.istore_n 2, 1) := by decide +kernel
theorem dX10_layNews_24 : decode cX10_layNews 24 = .ok (.iload_n 2, 1) := by decide +kernel
theorem dX10_layNews_25 : decode cX10_layNews 25 = .ok (.sipush 800, 3) := by decide +kernel
theorem dX10_layNews_28 : decode cX10_layNews 28 = .ok (.if_icmp .ge 34, 3) := by decide +kernel
theorem dX10_layNews_31 : decode cX10_layNews 31 = .ok (.aload_n 0, 1) := by decide +kernel
theorem dX10_layNews_32 : decode cX10_layNews 32 = .ok (.getfield 91, 3) := by decide +kernel
theorem dX10_layNews_35 : decode cX10_layNews 35 = .ok (.sipush 800, 3) := by decide +kernel
theorem dX10_layNews_38 : decode cX10_layNews 38 = .ok (.iload_n 1, 1) := by decide +kernel
theorem dX10_layNews_39 : decode cX10_layNews 39 = .ok (.imul, 1) := by decide +kernel
theorem dX10_layNews_40 : decode cX10_layNews 40 = .ok (.iload_n 2, 1) := by decide +kernel
theorem dX10_layNews_41 : decode cX10_layNews 41 = .ok (.iadd, 1) := by decide +kernel
theorem dX10_layNews_42 : decode cX10_layNews 42 = .ok (.aload_n 0, 1) := by decide +kernel
theorem dX10_layNews_43 : decode cX10_layNews 43 = .ok (.iload_n 1, 1) := by decide +kernel
theorem dX10_layNews_44 : decode cX10_layNews 44 = .ok (.aload_n 0, 1) := by decide +kernel
theorem dX10_layNews_45 : decode cX10_layNews 45 = .ok (.getfield 26, 3) := by decide +kernel
theorem dX10_layNews_48 : decode cX10_layNews 48 = .ok (.iload_n 1, 1) := by decide +kernel
theorem dX10_layNews_49 : decode cX10_layNews 49 = .ok (.iaload, 1) := by decide +kernel
theorem dX10_layNews_50 : decode cX10_layNews 50 = .ok (.iload_n 2, 1) := by decide +kernel
theorem dX10_layNews_51 : decode cX10_layNews 51 = .ok (.iadd, 1) := by decide +kernel
theorem dX10_layNews_52 : decode cX10_layNews 52 = .ok (.invokevirtual 287, 3) := by decide +kernel
theorem dX10_layNews_55 : decode cX10_layNews 55 = .ok (.iastore, 1) := by decide +kernel
theorem dX10_layNews_56 : decode cX10_layNews 56 = .ok (.iinc 2 1, 3) := by decide +kernel
theorem dX10_layNews_59 : decode cX10_layNews 59 = .ok (.goto (-35), 3) := by decide +kernel
theorem dX10_layNews_62 : decode cX10_layNews 62 = .ok (.iinc 1 1, 3) := by decide +kernel
theorem dX10_layNews_65 : decode cX10_layNews 65 = .ok (.goto (-63), 3) := by decide +kernel
theorem dX10_layNews_68 : decode cX10_layNews 68 = .ok (.aload_n 0, 1) := by decide +kernel
theorem dX10_layNews_69 : decode cX10_layNews 69 = .ok (.iconst 1, 1) := by decide +kernel
theorem dX10_layNews_70 : decode cX10_layNews 70 = .ok (.putfield 87, 3) := by decide +kernel
theorem dX10_layNews_73 : decode cX10_layNews 73 = .ok (.return_, 1) := by decide +kernel
theorem dX10_newsOf_0 : decode cX10_newsOf 0 = .ok (.iload_n 2, 1) := by decide +kernel
theorem dX10_newsOf_1 : decode cX10_newsOf 1 = .ok (.aload_n 0, 1) := by decide +kernel
theorem dX10_newsOf_2 : decode cX10_newsOf 2 = .ok (.getfield 94, 3) := by decide +kernel
theorem dX10_newsOf_5 : decode cX10_newsOf 5 = .ok (.iload_n 1, 1) := by decide +kernel
theorem dX10_newsOf_6 : decode cX10_newsOf 6 = .ok (.iaload, 1) := by decide +kernel
theorem dX10_newsOf_7 : decode cX10_newsOf 7 = .ok (.isub, 1) := by decide +kernel
theorem dX10_newsOf_8 : decode cX10_newsOf 8 = .ok (.istore_n 3, 1) := by decide +kernel
theorem dX10_newsOf_9 : decode cX10_newsOf 9 = .ok (.aload_n 0, 1) := by decide +kernel
theorem dX10_newsOf_10 : decode cX10_newsOf 10 = .ok (.getfield 87, 3) := by decide +kernel
theorem dX10_newsOf_13 : decode cX10_newsOf 13 = .ok (.ifCond .eq 30, 3) := by decide +kernel
theorem dX10_newsOf_16 : decode cX10_newsOf 16 = .ok (.aload_n 0, 1) := by decide +kernel
theorem dX10_newsOf_17 : decode cX10_newsOf 17 = .ok (.iload_n 3, 1) := by decide +kernel
theorem dX10_newsOf_18 : decode cX10_newsOf 18 = .ok (.iconst 0, 1) := by decide +kernel
theorem dX10_newsOf_19 : decode cX10_newsOf 19 = .ok (.sipush 799, 3) := by decide +kernel
theorem dX10_newsOf_22 : decode cX10_newsOf 22 = .ok (.invokevirtual 212, 3) := by decide +kernel
theorem dX10_newsOf_25 : decode cX10_newsOf 25 = .ok (.ifCond .eq 18, 3) := by decide +kernel
theorem dX10_newsOf_28 : decode cX10_newsOf 28 = .ok (.aload_n 0, 1) := by decide +kernel
theorem dX10_newsOf_29 : decode cX10_newsOf 29 = .ok (.getfield 91, 3) := by decide +kernel
theorem dX10_newsOf_32 : decode cX10_newsOf 32 = .ok (.sipush 800, 3) := by decide +kernel
theorem dX10_newsOf_35 : decode cX10_newsOf 35 = .ok (.iload_n 1, 1) := by decide +kernel
theorem dX10_newsOf_36 : decode cX10_newsOf 36 = .ok (.imul, 1) := by decide +kernel
theorem dX10_newsOf_37 : decode cX10_newsOf 37 = .ok (.iload_n 3, 1) := by decide +kernel
theorem dX10_newsOf_38 : decode cX10_newsOf 38 = .ok (.iadd, 1) := by decide +kernel
theorem dX10_newsOf_39 : decode cX10_newsOf 39 = .ok (.iaload, 1) := by decide +kernel
theorem dX10_newsOf_40 : decode cX10_newsOf 40 = .ok (.goto 9, 3) := by decide +kernel
theorem dX10_newsOf_43 : decode cX10_newsOf 43 = .ok (.aload_n 0, 1) := by decide +kernel
theorem dX10_newsOf_44 : decode cX10_newsOf 44 = .ok (.iload_n 1, 1) := by decide +kernel
theorem dX10_newsOf_45 : decode cX10_newsOf 45 = .ok (.iload_n 2, 1) := by decide +kernel
theorem dX10_newsOf_46 : decode cX10_newsOf 46 = .ok (.invokevirtual 287, 3) := by decide +kernel
theorem dX10_newsOf_49 : decode cX10_newsOf 49 = .ok (.ireturn, 1) := by decide +kernel
theorem dX10_news_0 : decode cX10_news 0 = .ok (.aload_n 0, 1) := by decide +kernel
theorem dX10_news_1 : decode cX10_news 1 = .ok (.iload_n 1, 1) := by decide +kernel
theorem dX10_news_2 : decode cX10_news 2 = .ok (.invokevirtual 220, 3) := by decide +kernel
theorem dX10_news_5 : decode cX10_news 5 = .ok (.ifCond .ne 5, 3) := by decide +kernel
theorem dX10_news_8 : decode cX10_news 8 = .ok (.iconst (-1), 1) := by decide +kernel
theorem dX10_news_9 : decode cX10_news 9 = .ok (.ireturn, 1) := by decide +kernel
theorem dX10_news_10 : decode cX10_news 10 = .ok (.aload_n 0, 1) := by decide +kernel
theorem dX10_news_11 : decode cX10_news 11 = .ok (.iload_n 2, 1) := by decide +kernel
theorem dX10_news_12 : decode cX10_news 12 = .ok (.invokevirtual 291, 3) := by decide +kernel
theorem dX10_news_15 : decode cX10_news 15 = .ok (.ifCond .eq 12, 3) := by decide +kernel
theorem dX10_news_18 : decode cX10_news 18 = .ok (.aload_n 0, 1) := by decide +kernel
theorem dX10_news_19 : decode cX10_news 19 = .ok (.iload_n 1, 1) := by decide +kernel
theorem dX10_news_20 : decode cX10_news 20 = .ok (.iload_n 2, 1) := by decide +kernel
theorem dX10_news_21 : decode cX10_news 21 = .ok (.invokevirtual 294, 3) := by decide +kernel
theorem dX10_news_24 : decode cX10_news 24 = .ok (.goto 5, 3) := by decide +kernel
theorem dX10_news_27 : decode cX10_news 27 = .ok (.bipush (-2), 2) := by decide +kernel
theorem dX10_news_29 : decode cX10_news 29 = .ok (.ireturn, 1) := by decide +kernel
theorem dX10_holdsOf_0 : decode cX10_holdsOf 0 = .ok (.aload_n 0, 1) := by decide +kernel
theorem dX10_holdsOf_1 : decode cX10_holdsOf 1 = .ok (.invokevirtual 297, 3) := by decide +kernel
theorem dX10_holdsOf_4 : decode cX10_holdsOf 4 = .ok (.istore_n 2, 1) := by decide +kernel
theorem dX10_holdsOf_5 : decode cX10_holdsOf 5 = .ok (.iload_n 2, 1) := by decide +kernel
theorem dX10_holdsOf_6 : decode cX10_holdsOf 6 = .ok (.iconst 2, 1) := by decide +kernel
theorem dX10_holdsOf_7 : decode cX10_holdsOf 7 = .ok (.idiv, 1) := by decide +kernel
theorem dX10_holdsOf_8 : decode cX10_holdsOf 8 = .ok (.iconst 1, 1) := by decide +kernel
theorem dX10_holdsOf_9 : decode cX10_holdsOf 9 = .ok (.if_icmp .ge 7, 3) := by decide +kernel
theorem dX10_holdsOf_12 : decode cX10_holdsOf 12 = .ok (.iconst 1, 1) := by decide +kernel
theorem dX10_holdsOf_13 : decode cX10_holdsOf 13 = .ok (.goto 6, 3) := by decide +kernel
theorem dX10_holdsOf_16 : decode cX10_holdsOf 16 = .ok (.iload_n 2, 1) := by decide +kernel
theorem dX10_holdsOf_17 : decode cX10_holdsOf 17 = .ok (.iconst 2, 1) := by decide +kernel
theorem dX10_holdsOf_18 : decode cX10_holdsOf 18 = .ok (.idiv, 1) := by decide +kernel
theorem dX10_holdsOf_19 : decode cX10_holdsOf 19 = .ok (.istore_n 3, 1) := by decide +kernel
theorem dX10_holdsOf_20 : decode cX10_holdsOf 20 = .ok (.aload_n 0, 1) := by decide +kernel
theorem dX10_holdsOf_21 : decode cX10_holdsOf 21 = .ok (.getfield 19, 3) := by decide +kernel
theorem dX10_holdsOf_24 : decode cX10_holdsOf 24 = .ok (.iload_n 1, 1) := by decide +kernel
theorem dX10_holdsOf_25 : decode cX10_holdsOf 25 = .ok (.iaload, 1) := by decide +kernel
theorem dX10_holdsOf_26 : decode cX10_holdsOf 26 = .ok (.tableswitch 73 1 6 #[38, 73, 42, 44, 73, 55], 38) := by decide +kernel
theorem dX10_holdsOf_64 : decode cX10_holdsOf 64 = .ok (.iconst 2, 1) := by decide +kernel
theorem dX10_holdsOf_65 : decode cX10_holdsOf 65 = .ok (.iload_n 2, 1) := by decide +kernel
theorem dX10_holdsOf_66 : decode cX10_holdsOf 66 = .ok (.imul, 1) := by decide +kernel
theorem dX10_holdsOf_67 : decode cX10_holdsOf 67 = .ok (.ireturn, 1) := by decide +kernel
theorem dX10_holdsOf_68 : decode cX10_holdsOf 68 = .ok (.iload_n 3, 1) := by decide +kernel
theorem dX10_holdsOf_69 : decode cX10_holdsOf 69 = .ok (.ireturn, 1) := by decide +kernel
theorem dX10_holdsOf_70 : decode cX10_holdsOf 70 = .ok (.iconst 2, 1) := by decide +kernel
theorem dX10_holdsOf_71 : decode cX10_holdsOf 71 = .ok (.iload_n 2, 1) := by decide +kernel
theorem dX10_holdsOf_72 : decode cX10_holdsOf 72 = .ok (.imul, 1) := by decide +kernel
theorem dX10_holdsOf_73 : decode cX10_holdsOf 73 = .ok (.aload_n 0, 1) := by decide +kernel
theorem dX10_holdsOf_74 : decode cX10_holdsOf 74 = .ok (.getfield 23, 3) := by decide +kernel
theorem dX10_holdsOf_77 : decode cX10_holdsOf 77 = .ok (.iload_n 1, 1) := by decide +kernel
theorem dX10_holdsOf_78 : decode cX10_holdsOf 78 = .ok (.iaload, 1) := by decide +kernel
theorem dX10_holdsOf_79 : decode cX10_holdsOf 79 = .ok (.iadd, 1) := by decide +kernel
theorem dX10_holdsOf_80 : decode cX10_holdsOf 80 = .ok (.ireturn, 1) := by decide +kernel
theorem dX10_holdsOf_81 : decode cX10_holdsOf 81 = .ok (.iload_n 3, 1) := by decide +kernel
theorem dX10_holdsOf_82 : decode cX10_holdsOf 82 = .ok (.aload_n 0, 1) := by decide +kernel
theorem dX10_holdsOf_83 : decode cX10_holdsOf 83 = .ok (.getfield 29, 3) := by decide +kernel
theorem dX10_holdsOf_86 : decode cX10_holdsOf 86 = .ok (.iconst 4, 1) := by decide +kernel
theorem dX10_holdsOf_87 : decode cX10_holdsOf 87 = .ok (.iload_n 1, 1) := by decide +kernel
theorem dX10_holdsOf_88 : decode cX10_holdsOf 88 = .ok (.imul, 1) := by decide +kernel
theorem dX10_holdsOf_89 : decode cX10_holdsOf 89 = .ok (.aload_n 0, 1) := by decide +kernel
theorem dX10_holdsOf_90 : decode cX10_holdsOf 90 = .ok (.getfield 16, 3) := by decide +kernel
theorem dX10_holdsOf_93 : decode cX10_holdsOf 93 = .ok (.iconst 4, 1) := by decide +kernel
theorem dX10_holdsOf_94 : decode cX10_holdsOf 94 = .ok (.irem, 1) := by decide +kernel
theorem dX10_holdsOf_95 : decode cX10_holdsOf 95 = .ok (.iadd, 1) := by decide +kernel
theorem dX10_holdsOf_96 : decode cX10_holdsOf 96 = .ok (.iaload, 1) := by decide +kernel
theorem dX10_holdsOf_97 : decode cX10_holdsOf 97 = .ok (.iadd, 1) := by decide +kernel
theorem dX10_holdsOf_98 : decode cX10_holdsOf 98 = .ok (.ireturn, 1) := by decide +kernel
theorem dX10_holdsOf_99 : decode cX10_holdsOf 99 = .ok (.iload_n 2, 1) := by decide +kernel
theorem dX10_holdsOf_100 : decode cX10_holdsOf 100 = .ok (.ireturn, 1) := by decide +kernel
theorem dX10_minds_0 : decode cX10_minds 0 = .ok (.aload_n 0, 1) := by decide +kernel
theorem dX10_minds_1 : decode cX10_minds 1 = .ok (.getfield 19, 3) := by decide +kernel
theorem dX10_minds_4 : decode cX10_minds 4 = .ok (.iload_n 1, 1) := by decide +kernel
theorem dX10_minds_5 : decode cX10_minds 5 = .ok (.iaload, 1) := by decide +kernel
theorem dX10_minds_6 : decode cX10_minds 6 = .ok (.iconst 5, 1) := by decide +kernel
theorem dX10_minds_7 : decode cX10_minds 7 = .ok (.if_icmp .ne 18, 3) := by decide +kernel
theorem dX10_minds_10 : decode cX10_minds 10 = .ok (.iload_n 2, 1) := by decide +kernel
theorem dX10_minds_11 : decode cX10_minds 11 = .ok (.aload_n 0, 1) := by decide +kernel
theorem dX10_minds_12 : decode cX10_minds 12 = .ok (.getfield 23, 3) := by decide +kernel
theorem dX10_minds_15 : decode cX10_minds 15 = .ok (.iload_n 1, 1) := by decide +kernel
theorem dX10_minds_16 : decode cX10_minds 16 = .ok (.iaload, 1) := by decide +kernel
theorem dX10_minds_17 : decode cX10_minds 17 = .ok (.iconst 2, 1) := by decide +kernel
theorem dX10_minds_18 : decode cX10_minds 18 = .ok (.iadd, 1) := by decide +kernel
theorem dX10_minds_19 : decode cX10_minds 19 = .ok (.irem, 1) := by decide +kernel
theorem dX10_minds_20 : decode cX10_minds 20 = .ok (.ifCond .ne 5, 3) := by decide +kernel
theorem dX10_minds_23 : decode cX10_minds 23 = .ok (.iconst 0, 1) := by decide +kernel
theorem dX10_minds_24 : decode cX10_minds 24 = .ok (.ireturn, 1) := by decide +kernel
theorem dX10_minds_25 : decode cX10_minds 25 = .ok (.aload_n 0, 1) := by decide +kernel
theorem dX10_minds_26 : decode cX10_minds 26 = .ok (.getfield 19, 3) := by decide +kernel
theorem dX10_minds_29 : decode cX10_minds 29 = .ok (.iload_n 1, 1) := by decide +kernel
theorem dX10_minds_30 : decode cX10_minds 30 = .ok (.iaload, 1) := by decide +kernel
theorem dX10_minds_31 : decode cX10_minds 31 = .ok (.iconst 2, 1) := by decide +kernel
theorem dX10_minds_32 : decode cX10_minds 32 = .ok (.if_icmp .eq 13, 3) := by decide +kernel
theorem dX10_minds_35 : decode cX10_minds 35 = .ok (.aload_n 0, 1) := by decide +kernel
theorem dX10_minds_36 : decode cX10_minds 36 = .ok (.getfield 19, 3) := by decide +kernel
theorem dX10_minds_39 : decode cX10_minds 39 = .ok (.iload_n 1, 1) := by decide +kernel
theorem dX10_minds_40 : decode cX10_minds 40 = .ok (.iaload, 1) := by decide +kernel
theorem dX10_minds_41 : decode cX10_minds 41 = .ok (.iconst 5, 1) := by decide +kernel
theorem dX10_minds_42 : decode cX10_minds 42 = .ok (.if_icmp .ne 24, 3) := by decide +kernel
theorem dX10_minds_45 : decode cX10_minds 45 = .ok (.aload_n 0, 1) := by decide +kernel
theorem dX10_minds_46 : decode cX10_minds 46 = .ok (.iload_n 1, 1) := by decide +kernel
theorem dX10_minds_47 : decode cX10_minds 47 = .ok (.iload_n 2, 1) := by decide +kernel
theorem dX10_minds_48 : decode cX10_minds 48 = .ok (.invokevirtual 294, 3) := by decide +kernel
theorem dX10_minds_51 : decode cX10_minds 51 = .ok (.aload_n 0, 1) := by decide +kernel
theorem dX10_minds_52 : decode cX10_minds 52 = .ok (.getfield 23, 3) := by decide +kernel
theorem dX10_minds_55 : decode cX10_minds 55 = .ok (.iload_n 1, 1) := by decide +kernel
theorem dX10_minds_56 : decode cX10_minds 56 = .ok (.iaload, 1) := by decide +kernel
theorem dX10_minds_57 : decode cX10_minds 57 = .ok (.iconst 3, 1) := by decide +kernel
theorem dX10_minds_58 : decode cX10_minds 58 = .ok (.iadd, 1) := by decide +kernel
theorem dX10_minds_59 : decode cX10_minds 59 = .ok (.if_icmp .le 7, 3) := by decide +kernel
theorem dX10_minds_62 : decode cX10_minds 62 = .ok (.iconst 1, 1) := by decide +kernel
theorem dX10_minds_63 : decode cX10_minds 63 = .ok (.goto 4, 3) := by decide +kernel
theorem dX10_minds_66 : decode cX10_minds 66 = .ok (.iconst 0, 1) := by decide +kernel
theorem dX10_minds_67 : decode cX10_minds 67 = .ok (.ireturn, 1) := by decide +kernel
theorem dX10_isUp_0 : decode cX10_isUp 0 = .ok (.aload_n 0, 1) := by decide +kernel
theorem dX10_isUp_1 : decode cX10_isUp 1 = .ok (.getfield 26, 3) := by decide +kernel
theorem dX10_isUp_4 : decode cX10_isUp 4 = .ok (.iload_n 1, 1) := by decide +kernel
theorem dX10_isUp_5 : decode cX10_isUp 5 = .ok (.iaload, 1) := by decide +kernel
theorem dX10_isUp_6 : decode cX10_isUp 6 = .ok (.aload_n 0, 1) := by decide +kernel
theorem dX10_isUp_7 : decode cX10_isUp 7 = .ok (.getfield 16, 3) := by decide +kernel
theorem dX10_isUp_10 : decode cX10_isUp 10 = .ok (.if_icmp .ne 7, 3) := by decide +kernel
theorem dX10_isUp_13 : decode cX10_isUp 13 = .ok (.iconst 1, 1) := by decide +kernel
theorem dX10_isUp_14 : decode cX10_isUp 14 = .ok (.goto 4, 3) := by decide +kernel
theorem dX10_isUp_17 : decode cX10_isUp 17 = .ok (.iconst 0, 1) := by decide +kernel
theorem dX10_isUp_18 : decode cX10_isUp 18 = .ok (.ireturn, 1) := by decide +kernel
theorem dX10_upMany_0 : decode cX10_upMany 0 = .ok (.iconst 0, 1) := by decide +kernel
theorem dX10_upMany_1 : decode cX10_upMany 1 = .ok (.istore_n 1, 1) := by decide +kernel
theorem dX10_upMany_2 : decode cX10_upMany 2 = .ok (.iconst 0, 1) := by decide +kernel
theorem dX10_upMany_3 : decode cX10_upMany 3 = .ok (.istore_n 2, 1) := by decide +kernel
theorem dX10_upMany_4 : decode cX10_upMany 4 = .ok (.iload_n 2, 1) := by decide +kernel
theorem dX10_upMany_5 : decode cX10_upMany 5 = .ok (.aload_n 0, 1) := by decide +kernel
theorem dX10_upMany_6 : decode cX10_upMany 6 = .ok (.getfield 7, 3) := by decide +kernel
theorem dX10_upMany_9 : decode cX10_upMany 9 = .ok (.if_icmp .ge 25, 3) := by decide +kernel
theorem dX10_upMany_12 : decode cX10_upMany 12 = .ok (.iload_n 1, 1) := by decide +kernel
theorem dX10_upMany_13 : decode cX10_upMany 13 = .ok (.aload_n 0, 1) := by decide +kernel
theorem dX10_upMany_14 : decode cX10_upMany 14 = .ok (.iload_n 2, 1) := by decide +kernel
theorem dX10_upMany_15 : decode cX10_upMany 15 = .ok (.invokevirtual 300, 3) := by decide +kernel
theorem dX10_upMany_18 : decode cX10_upMany 18 = .ok (.ifCond .eq 7, 3) := by decide +kernel
theorem dX10_upMany_21 : decode cX10_upMany 21 = .ok (.iconst 1, 1) := by decide +kernel
theorem dX10_upMany_22 : decode cX10_upMany 22 = .ok (.goto 4, 3) := by decide +kernel
theorem dX10_upMany_25 : decode cX10_upMany 25 = .ok (.iconst 0, 1) := by decide +kernel
theorem dX10_upMany_26 : decode cX10_upMany 26 = .ok (.iadd, 1) := by decide +kernel
theorem dX10_upMany_27 : decode cX10_upMany 27 = .ok (.istore_n 1, 1) := by decide +kernel
theorem dX10_upMany_28 : decode cX10_upMany 28 = .ok (.iinc 2 1, 3) := by decide +kernel
theorem dX10_upMany_31 : decode cX10_upMany 31 = .ok (.goto (-27), 3) := by decide +kernel
theorem dX10_upMany_34 : decode cX10_upMany 34 = .ok (.iload_n 1, 1) := by decide +kernel
theorem dX10_upMany_35 : decode cX10_upMany 35 = .ok (.ireturn, 1) := by decide +kernel
theorem dX10_left_0 : decode cX10_left 0 = .ok (.iconst 0, 1) := by decide +kernel
theorem dX10_left_1 : decode cX10_left 1 = .ok (.istore_n 2, 1) := by decide +kernel
theorem dX10_left_2 : decode cX10_left 2 = .ok (.aload_n 0, 1) := by decide +kernel
theorem dX10_left_3 : decode cX10_left 3 = .ok (.getfield 26, 3) := by decide +kernel
theorem dX10_left_6 : decode cX10_left 6 = .ok (.iload_n 1, 1) := by decide +kernel
theorem dX10_left_7 : decode cX10_left 7 = .ok (.iaload, 1) := by decide +kernel
theorem dX10_left_8 : decode cX10_left 8 = .ok (.istore_n 3, 1) := by decide +kernel
theorem dX10_left_9 : decode cX10_left 9 = .ok (.iload_n 3, 1) := by decide +kernel
theorem dX10_left_10 : decode cX10_left 10 = .ok (.aload_n 0, 1) := by decide +kernel
theorem dX10_left_11 : decode cX10_left 11 = .ok (.getfield 16, 3) := by decide +kernel
theorem dX10_left_14 : decode cX10_left 14 = .ok (.if_icmp .ge 18, 3) := by decide +kernel
theorem dX10_left_17 : decode cX10_left 17 = .ok (.iload_n 2, 1) := by decide +kernel
theorem dX10_left_18 : decode cX10_left 18 = .ok (.aload_n 0, 1) := by decide +kernel
theorem dX10_left_19 : decode cX10_left 19 = .ok (.iload_n 1, 1) := by decide +kernel
theorem dX10_left_20 : decode cX10_left 20 = .ok (.iload_n 3, 1) := by decide +kernel
theorem dX10_left_21 : decode cX10_left 21 = .ok (.invokevirtual 294, 3) := by decide +kernel
theorem dX10_left_24 : decode cX10_left 24 = .ok (.iadd, 1) := by decide +kernel
theorem dX10_left_25 : decode cX10_left 25 = .ok (.istore_n 2, 1) := by decide +kernel
theorem dX10_left_26 : decode cX10_left 26 = .ok (.iinc 3 1, 3) := by decide +kernel
theorem dX10_left_29 : decode cX10_left 29 = .ok (.goto (-20), 3) := by decide +kernel
theorem dX10_left_32 : decode cX10_left 32 = .ok (.iload_n 2, 1) := by decide +kernel
theorem dX10_left_33 : decode cX10_left 33 = .ok (.ireturn, 1) := by decide +kernel
theorem dX10_allLeft_0 : decode cX10_allLeft 0 = .ok (.iconst 0, 1) := by decide +kernel
theorem dX10_allLeft_1 : decode cX10_allLeft 1 = .ok (.istore_n 1, 1) := by decide +kernel
theorem dX10_allLeft_2 : decode cX10_allLeft 2 = .ok (.iconst 0, 1) := by decide +kernel
theorem dX10_allLeft_3 : decode cX10_allLeft 3 = .ok (.istore_n 2, 1) := by decide +kernel
theorem dX10_allLeft_4 : decode cX10_allLeft 4 = .ok (.iload_n 2, 1) := by decide +kernel
theorem dX10_allLeft_5 : decode cX10_allLeft 5 = .ok (.aload_n 0, 1) := by decide +kernel
theorem dX10_allLeft_6 : decode cX10_allLeft 6 = .ok (.getfield 7, 3) := by decide +kernel
theorem dX10_allLeft_9 : decode cX10_allLeft 9 = .ok (.if_icmp .ge 17, 3) := by decide +kernel
theorem dX10_allLeft_12 : decode cX10_allLeft 12 = .ok (.iload_n 1, 1) := by decide +kernel
theorem dX10_allLeft_13 : decode cX10_allLeft 13 = .ok (.aload_n 0, 1) := by decide +kernel
theorem dX10_allLeft_14 : decode cX10_allLeft 14 = .ok (.iload_n 2, 1) := by decide +kernel
theorem dX10_allLeft_15 : decode cX10_allLeft 15 = .ok (.invokevirtual 303, 3) := by decide +kernel
theorem dX10_allLeft_18 : decode cX10_allLeft 18 = .ok (.iadd, 1) := by decide +kernel
theorem dX10_allLeft_19 : decode cX10_allLeft 19 = .ok (.istore_n 1, 1) := by decide +kernel
theorem dX10_allLeft_20 : decode cX10_allLeft 20 = .ok (.iinc 2 1, 3) := by decide +kernel
theorem dX10_allLeft_23 : decode cX10_allLeft 23 = .ok (.goto (-19), 3) := by decide +kernel
theorem dX10_allLeft_26 : decode cX10_allLeft 26 = .ok (.iload_n 1, 1) := by decide +kernel
theorem dX10_allLeft_27 : decode cX10_allLeft 27 = .ok (.ireturn, 1) := by decide +kernel
theorem dX10_minded_0 : decode cX10_minded 0 = .ok (.aload_n 0, 1) := by decide +kernel
theorem dX10_minded_1 : decode cX10_minded 1 = .ok (.aload_n 0, 1) := by decide +kernel
theorem dX10_minded_2 : decode cX10_minded 2 = .ok (.getfield 13, 3) := by decide +kernel
theorem dX10_minded_5 : decode cX10_minded 5 = .ok (.iload_n 1, 1) := by decide +kernel
theorem dX10_minded_6 : decode cX10_minded 6 = .ok (.invokevirtual 224, 3) := by decide +kernel
theorem dX10_minded_9 : decode cX10_minded 9 = .ok (.ifCond .eq 6, 3) := by decide +kernel
theorem dX10_minded_12 : decode cX10_minded 12 = .ok (.bipush (-5), 2) := by decide +kernel
theorem dX10_minded_14 : decode cX10_minded 14 = .ok (.ireturn, 1) := by decide +kernel
theorem dX10_minded_15 : decode cX10_minded 15 = .ok (.aload_n 0, 1) := by decide +kernel
theorem dX10_minded_16 : decode cX10_minded 16 = .ok (.getfield 26, 3) := by decide +kernel
theorem dX10_minded_19 : decode cX10_minded 19 = .ok (.iload_n 1, 1) := by decide +kernel
theorem dX10_minded_20 : decode cX10_minded 20 = .ok (.iaload, 1) := by decide +kernel
theorem dX10_minded_21 : decode cX10_minded 21 = .ok (.istore_n 2, 1) := by decide +kernel
theorem dX10_minded_22 : decode cX10_minded 22 = .ok (.iload_n 2, 1) := by decide +kernel
theorem dX10_minded_23 : decode cX10_minded 23 = .ok (.aload_n 0, 1) := by decide +kernel
theorem dX10_minded_24 : decode cX10_minded 24 = .ok (.getfield 16, 3) := by decide +kernel
theorem dX10_minded_27 : decode cX10_minded 27 = .ok (.if_icmp .ge 20, 3) := by decide +kernel
theorem dX10_minded_30 : decode cX10_minded 30 = .ok (.aload_n 0, 1) := by decide +kernel
theorem dX10_minded_31 : decode cX10_minded 31 = .ok (.iload_n 1, 1) := by decide +kernel
theorem dX10_minded_32 : decode cX10_minded 32 = .ok (.iload_n 2, 1) := by decide +kernel
theorem dX10_minded_33 : decode cX10_minded 33 = .ok (.invokevirtual 306, 3) := by decide +kernel
theorem dX10_minded_36 : decode cX10_minded 36 = .ok (.ifCond .eq 5, 3) := by decide +kernel
theorem dX10_minded_39 : decode cX10_minded 39 = .ok (.iload_n 2, 1) := by decide +kernel
theorem dX10_minded_40 : decode cX10_minded 40 = .ok (.ireturn, 1) := by decide +kernel
theorem dX10_minded_41 : decode cX10_minded 41 = .ok (.iinc 2 1, 3) := by decide +kernel
theorem dX10_minded_44 : decode cX10_minded 44 = .ok (.goto (-22), 3) := by decide +kernel
theorem dX10_minded_47 : decode cX10_minded 47 = .ok (.bipush (-5), 2) := by decide +kernel
theorem dX10_minded_49 : decode cX10_minded 49 = .ok (.ireturn, 1) := by decide +kernel
theorem dX10_goNight_0 : decode cX10_goNight 0 = .ok (.iconst 0, 1) := by decide +kernel
theorem dX10_goNight_1 : decode cX10_goNight 1 = .ok (.istore_n 1, 1) := by decide +kernel
theorem dX10_goNight_2 : decode cX10_goNight 2 = .ok (.iload_n 1, 1) := by decide +kernel
theorem dX10_goNight_3 : decode cX10_goNight 3 = .ok (.aload_n 0, 1) := by decide +kernel
theorem dX10_goNight_4 : decode cX10_goNight 4 = .ok (.getfield 7, 3) := by decide +kernel
theorem dX10_goNight_7 : decode cX10_goNight 7 = .ok (.if_icmp .ge 31, 3) := by decide +kernel
theorem dX10_goNight_10 : decode cX10_goNight 10 = .ok (.aload_n 0, 1) := by decide +kernel
theorem dX10_goNight_11 : decode cX10_goNight 11 = .ok (.getfield 26, 3) := by decide +kernel
theorem dX10_goNight_14 : decode cX10_goNight 14 = .ok (.iload_n 1, 1) := by decide +kernel
theorem dX10_goNight_15 : decode cX10_goNight 15 = .ok (.dup2, 1) := by decide +kernel
theorem dX10_goNight_16 : decode cX10_goNight 16 = .ok (.iaload, 1) := by decide +kernel
theorem dX10_goNight_17 : decode cX10_goNight 17 = .ok (.aload_n 0, 1) := by decide +kernel
theorem dX10_goNight_18 : decode cX10_goNight 18 = .ok (.iload_n 1, 1) := by decide +kernel
theorem dX10_goNight_19 : decode cX10_goNight 19 = .ok (.invokevirtual 300, 3) := by decide +kernel
theorem dX10_goNight_22 : decode cX10_goNight 22 = .ok (.ifCond .eq 7, 3) := by decide +kernel
theorem dX10_goNight_25 : decode cX10_goNight 25 = .ok (.iconst 1, 1) := by decide +kernel
theorem dX10_goNight_26 : decode cX10_goNight 26 = .ok (.goto 4, 3) := by decide +kernel
theorem dX10_goNight_29 : decode cX10_goNight 29 = .ok (.iconst 0, 1) := by decide +kernel
theorem dX10_goNight_30 : decode cX10_goNight 30 = .ok (.iadd, 1) := by decide +kernel
theorem dX10_goNight_31 : decode cX10_goNight 31 = .ok (.iastore, 1) := by decide +kernel
theorem dX10_goNight_32 : decode cX10_goNight 32 = .ok (.iinc 1 1, 3) := by decide +kernel
theorem dX10_goNight_35 : decode cX10_goNight 35 = .ok (.goto (-33), 3) := by decide +kernel
theorem dX10_goNight_38 : decode cX10_goNight 38 = .ok (.aload_n 0, 1) := by decide +kernel
theorem dX10_goNight_39 : decode cX10_goNight 39 = .ok (.dup, 1) := by decide +kernel
theorem dX10_goNight_40 : decode cX10_goNight 40 = .ok (.getfield 16, 3) := by decide +kernel
theorem dX10_goNight_43 : decode cX10_goNight 43 = .ok (.iconst 1, 1) := by decide +kernel
theorem dX10_goNight_44 : decode cX10_goNight 44 = .ok (.iadd, 1) := by decide +kernel
theorem dX10_goNight_45 : decode cX10_goNight 45 = .ok (.putfield 16, 3) := by decide +kernel
theorem dX10_goNight_48 : decode cX10_goNight 48 = .ok (.return_, 1) := by decide +kernel
theorem dX10_goEvening_0 : decode cX10_goEvening 0 = .ok (.iconst 0, 1) := by decide +kernel
theorem dX10_goEvening_1 : decode cX10_goEvening 1 = .ok (.istore_n 2, 1) := by decide +kernel
theorem dX10_goEvening_2 : decode cX10_goEvening 2 = .ok (.iconst 0, 1) := by decide +kernel
theorem dX10_goEvening_3 : decode cX10_goEvening 3 = .ok (.istore_n 3, 1) := by decide +kernel
theorem dX10_goEvening_4 : decode cX10_goEvening 4 = .ok (.aload_n 0, 1) := by decide +kernel
theorem dX10_goEvening_5 : decode cX10_goEvening 5 = .ok (.iload_n 1, 1) := by decide +kernel
theorem dX10_goEvening_6 : decode cX10_goEvening 6 = .ok (.invokevirtual 309, 3) := by decide +kernel
theorem dX10_goEvening_9 : decode cX10_goEvening 9 = .ok (.istore 4, 2) := by decide +kernel
theorem dX10_goEvening_11 : decode cX10_goEvening 11 = .ok (.iload_n 2, 1) := by decide +kernel
theorem dX10_goEvening_12 : decode cX10_goEvening 12 = .ok (.bipush 30, 2) := by decide +kernel
theorem dX10_goEvening_14 : decode cX10_goEvening 14 = .ok (.if_icmp .ge 107, 3) := by decide +kernel
theorem dX10_goEvening_17 : decode cX10_goEvening 17 = .ok (.aload_n 0, 1) := by decide +kernel
theorem dX10_goEvening_18 : decode cX10_goEvening 18 = .ok (.getfield 26, 3) := by decide +kernel
theorem dX10_goEvening_21 : decode cX10_goEvening 21 = .ok (.iload_n 1, 1) := by decide +kernel
theorem dX10_goEvening_22 : decode cX10_goEvening 22 = .ok (.iaload, 1) := by decide +kernel
theorem dX10_goEvening_23 : decode cX10_goEvening 23 = .ok (.aload_n 0, 1) := by decide +kernel
theorem dX10_goEvening_24 : decode cX10_goEvening 24 = .ok (.getfield 16, 3) := by decide +kernel
theorem dX10_goEvening_27 : decode cX10_goEvening 27 = .ok (.if_icmp .ge 94, 3) := by decide +kernel
theorem dX10_goEvening_30 : decode cX10_goEvening 30 = .ok (.aload_n 0, 1) := by decide +kernel
theorem dX10_goEvening_31 : decode cX10_goEvening 31 = .ok (.aload_n 0, 1) := by decide +kernel
theorem dX10_goEvening_32 : decode cX10_goEvening 32 = .ok (.getfield 13, 3) := by decide +kernel
theorem dX10_goEvening_35 : decode cX10_goEvening 35 = .ok (.iload_n 1, 1) := by decide +kernel
theorem dX10_goEvening_36 : decode cX10_goEvening 36 = .ok (.invokevirtual 224, 3) := by decide +kernel
theorem dX10_goEvening_39 : decode cX10_goEvening 39 = .ok (.ifCond .ne 82, 3) := by decide +kernel
theorem dX10_goEvening_42 : decode cX10_goEvening 42 = .ok (.aload_n 0, 1) := by decide +kernel
theorem dX10_goEvening_43 : decode cX10_goEvening 43 = .ok (.iload_n 1, 1) := by decide +kernel
theorem dX10_goEvening_44 : decode cX10_goEvening 44 = .ok (.aload_n 0, 1) := by decide +kernel
theorem dX10_goEvening_45 : decode cX10_goEvening 45 = .ok (.getfield 26, 3) := by decide +kernel
theorem dX10_goEvening_48 : decode cX10_goEvening 48 = .ok (.iload_n 1, 1) := by decide +kernel
theorem dX10_goEvening_49 : decode cX10_goEvening 49 = .ok (.iaload, 1) := by decide +kernel
theorem dX10_goEvening_50 : decode cX10_goEvening 50 = .ok (.invokevirtual 294, 3) := by decide +kernel
theorem dX10_goEvening_53 : decode cX10_goEvening 53 = .ok (.istore 5, 2) := by decide +kernel
theorem dX10_goEvening_55 : decode cX10_goEvening 55 = .ok (.aload_n 0, 1) := by decide +kernel
theorem dX10_goEvening_56 : decode cX10_goEvening 56 = .ok (.iload_n 1, 1) := by decide +kernel
theorem dX10_goEvening_57 : decode cX10_goEvening 57 = .ok (.aload_n 0, 1) := by decide +kernel
theorem dX10_goEvening_58 : decode cX10_goEvening 58 = .ok (.getfield 26, 3) := by decide +kernel
theorem dX10_goEvening_61 : decode cX10_goEvening 61 = .ok (.iload_n 1, 1) := by decide +kernel
theorem dX10_goEvening_62 : decode cX10_goEvening 62 = .ok (.iaload, 1) := by decide +kernel
theorem dX10_goEvening_63 : decode cX10_goEvening 63 = .ok (.invokevirtual 306, 3) := by decide +kernel
theorem dX10_goEvening_66 : decode cX10_goEvening 66 = .ok (.ifCond .eq 12, 3) := by decide +kernel
theorem dX10_goEvening_69 : decode cX10_goEvening 69 = .ok (.aload_n 0, 1) := by decide +kernel
theorem dX10_goEvening_70 : decode cX10_goEvening 70 = .ok (.iload_n 1, 1) := by decide +kernel
theorem dX10_goEvening_71 : decode cX10_goEvening 71 = .ok (.iconst 1, 1) := by decide +kernel
theorem dX10_goEvening_72 : decode cX10_goEvening 72 = .ok (.invokevirtual 216, 3) := by decide +kernel
theorem dX10_goEvening_75 : decode cX10_goEvening 75 = .ok (.goto 43, 3) := by decide +kernel
theorem dX10_goEvening_78 : decode cX10_goEvening 78 = .ok (.iload_n 2, 1) := by decide +kernel
theorem dX10_goEvening_79 : decode cX10_goEvening 79 = .ok (.ifCond .eq 12, 3) := by decide +kernel
theorem dX10_goEvening_82 : decode cX10_goEvening 82 = .ok (.iload_n 3, 1) := by decide +kernel
theorem dX10_goEvening_83 : decode cX10_goEvening 83 = .ok (.iload 5, 2) := by decide +kernel
theorem dX10_goEvening_85 : decode cX10_goEvening 85 = .ok (.iadd, 1) := by decide +kernel
theorem dX10_goEvening_86 : decode cX10_goEvening 86 = .ok (.iload 4, 2) := by decide +kernel
theorem dX10_goEvening_88 : decode cX10_goEvening 88 = .ok (.if_icmp .gt 24, 3) := by decide +kernel
theorem dX10_goEvening_91 : decode cX10_goEvening 91 = .ok (.iload_n 3, 1) := by decide +kernel
theorem dX10_goEvening_92 : decode cX10_goEvening 92 = .ok (.iload 5, 2) := by decide +kernel
theorem dX10_goEvening_94 : decode cX10_goEvening 94 = .ok (.iadd, 1) := by decide +kernel
theorem dX10_goEvening_95 : decode cX10_goEvening 95 = .ok (.istore_n 3, 1) := by decide +kernel
theorem dX10_goEvening_96 : decode cX10_goEvening 96 = .ok (.iinc 2 1, 3) := by decide +kernel
theorem dX10_goEvening_99 : decode cX10_goEvening 99 = .ok (.aload_n 0, 1) := by decide +kernel
theorem dX10_goEvening_100 : decode cX10_goEvening 100 = .ok (.getfield 26, 3) := by decide +kernel
theorem dX10_goEvening_103 : decode cX10_goEvening 103 = .ok (.iload_n 1, 1) := by decide +kernel
theorem dX10_goEvening_104 : decode cX10_goEvening 104 = .ok (.dup2, 1) := by decide +kernel
theorem dX10_goEvening_105 : decode cX10_goEvening 105 = .ok (.iaload, 1) := by decide +kernel
theorem dX10_goEvening_106 : decode cX10_goEvening 106 = .ok (.iconst 1, 1) := by decide +kernel
theorem dX10_goEvening_107 : decode cX10_goEvening 107 = .ok (.iadd, 1) := by decide +kernel
theorem dX10_goEvening_108 : decode cX10_goEvening 108 = .ok (.iastore, 1) := by decide +kernel
theorem dX10_goEvening_109 : decode cX10_goEvening 109 = .ok (.goto 9, 3) := by decide +kernel
theorem dX10_goEvening_112 : decode cX10_goEvening 112 = .ok (.aload_n 0, 1) := by decide +kernel
theorem dX10_goEvening_113 : decode cX10_goEvening 113 = .ok (.invokevirtual 312, 3) := by decide +kernel
theorem dX10_goEvening_116 : decode cX10_goEvening 116 = .ok (.iload_n 2, 1) := by decide +kernel
theorem dX10_goEvening_117 : decode cX10_goEvening 117 = .ok (.ireturn, 1) := by decide +kernel
theorem dX10_goEvening_118 : decode cX10_goEvening 118 = .ok (.goto (-107), 3) := by decide +kernel
theorem dX10_goEvening_121 : decode cX10_goEvening 121 = .ok (.aload_n 0, 1) := by decide +kernel
theorem dX10_goEvening_122 : decode cX10_goEvening 122 = .ok (.invokevirtual 312, 3) := by decide +kernel
theorem dX10_goEvening_125 : decode cX10_goEvening 125 = .ok (.iload_n 2, 1) := by decide +kernel
theorem dX10_goEvening_126 : decode cX10_goEvening 126 = .ok (.ireturn, 1) := by decide +kernel
theorem dX10_tell_0 : decode cX10_tell 0 = .ok (.aload_n 0, 1) := by decide +kernel
theorem dX10_tell_1 : decode cX10_tell 1 = .ok (.iload_n 1, 1) := by decide +kernel
theorem dX10_tell_2 : decode cX10_tell 2 = .ok (.invokevirtual 220, 3) := by decide +kernel
theorem dX10_tell_5 : decode cX10_tell 5 = .ok (.ifCond .ne 5, 3) := by decide +kernel
theorem dX10_tell_8 : decode cX10_tell 8 = .ok (.iconst (-1), 1) := by decide +kernel
theorem dX10_tell_9 : decode cX10_tell 9 = .ok (.ireturn, 1) := by decide +kernel
theorem dX10_tell_10 : decode cX10_tell 10 = .ok (.aload_n 0, 1) := by decide +kernel
theorem dX10_tell_11 : decode cX10_tell 11 = .ok (.getfield 16, 3) := by decide +kernel
theorem dX10_tell_14 : decode cX10_tell 14 = .ok (.sipush 9999, 3) := by decide +kernel
theorem dX10_tell_17 : decode cX10_tell 17 = .ok (.if_icmp .ne 8, 3) := by decide +kernel
theorem dX10_tell_20 : decode cX10_tell 20 = .ok (.bipush (-3), 2) := by decide +kernel
theorem dX10_tell_22 : decode cX10_tell 22 = .ok (.goto 8, 3) := by decide +kernel
theorem dX10_tell_25 : decode cX10_tell 25 = .ok (.aload_n 0, 1) := by decide +kernel
theorem dX10_tell_26 : decode cX10_tell 26 = .ok (.iload_n 1, 1) := by decide +kernel
theorem dX10_tell_27 : decode cX10_tell 27 = .ok (.invokevirtual 315, 3) := by decide +kernel
theorem dX10_tell_30 : decode cX10_tell 30 = .ok (.ireturn, 1) := by decide +kernel
theorem dX10_pass_0 : decode cX10_pass 0 = .ok (.aload_n 0, 1) := by decide +kernel
theorem dX10_pass_1 : decode cX10_pass 1 = .ok (.iload_n 1, 1) := by decide +kernel
theorem dX10_pass_2 : decode cX10_pass 2 = .ok (.invokevirtual 318, 3) := by decide +kernel
theorem dX10_pass_5 : decode cX10_pass 5 = .ok (.ifCond .ne 6, 3) := by decide +kernel
theorem dX10_pass_8 : decode cX10_pass 8 = .ok (.bipush (-2), 2) := by decide +kernel
theorem dX10_pass_10 : decode cX10_pass 10 = .ok (.ireturn, 1) := by decide +kernel
theorem dX10_pass_11 : decode cX10_pass 11 = .ok (.aload_n 0, 1) := by decide +kernel
theorem dX10_pass_12 : decode cX10_pass 12 = .ok (.getfield 16, 3) := by decide +kernel
theorem dX10_pass_15 : decode cX10_pass 15 = .ok (.iload_n 1, 1) := by decide +kernel
theorem dX10_pass_16 : decode cX10_pass 16 = .ok (.iadd, 1) := by decide +kernel
theorem dX10_pass_17 : decode cX10_pass 17 = .ok (.sipush 9999, 3) := by decide +kernel
theorem dX10_pass_20 : decode cX10_pass 20 = .ok (.if_icmp .le 6, 3) := by decide +kernel
theorem dX10_pass_23 : decode cX10_pass 23 = .ok (.bipush (-3), 2) := by decide +kernel
theorem dX10_pass_25 : decode cX10_pass 25 = .ok (.ireturn, 1) := by decide +kernel
theorem dX10_pass_26 : decode cX10_pass 26 = .ok (.iconst 0, 1) := by decide +kernel
theorem dX10_pass_27 : decode cX10_pass 27 = .ok (.istore_n 2, 1) := by decide +kernel
theorem dX10_pass_28 : decode cX10_pass 28 = .ok (.iload_n 2, 1) := by decide +kernel
theorem dX10_pass_29 : decode cX10_pass 29 = .ok (.iload_n 1, 1) := by decide +kernel
theorem dX10_pass_30 : decode cX10_pass 30 = .ok (.if_icmp .ge 13, 3) := by decide +kernel
theorem dX10_pass_33 : decode cX10_pass 33 = .ok (.aload_n 0, 1) := by decide +kernel
theorem dX10_pass_34 : decode cX10_pass 34 = .ok (.invokevirtual 312, 3) := by decide +kernel
theorem dX10_pass_37 : decode cX10_pass 37 = .ok (.iinc 2 1, 3) := by decide +kernel
theorem dX10_pass_40 : decode cX10_pass 40 = .ok (.goto (-12), 3) := by decide +kernel
theorem dX10_pass_43 : decode cX10_pass 43 = .ok (.aload_n 0, 1) := by decide +kernel
theorem dX10_pass_44 : decode cX10_pass 44 = .ok (.getfield 16, 3) := by decide +kernel
theorem dX10_pass_47 : decode cX10_pass 47 = .ok (.ireturn, 1) := by decide +kernel
theorem dX10_save_0 : decode cX10_save 0 = .ok (.aload_n 0, 1) := by decide +kernel
theorem dX10_save_1 : decode cX10_save 1 = .ok (.aload_n 0, 1) := by decide +kernel
theorem dX10_save_2 : decode cX10_save 2 = .ok (.getfield 13, 3) := by decide +kernel
theorem dX10_save_5 : decode cX10_save 5 = .ok (.putfield 97, 3) := by decide +kernel
theorem dX10_save_8 : decode cX10_save 8 = .ok (.aload_n 0, 1) := by decide +kernel
theorem dX10_save_9 : decode cX10_save 9 = .ok (.aload_n 0, 1) := by decide +kernel
theorem dX10_save_10 : decode cX10_save 10 = .ok (.getfield 16, 3) := by decide +kernel
theorem dX10_save_13 : decode cX10_save 13 = .ok (.putfield 100, 3) := by decide +kernel
theorem dX10_save_16 : decode cX10_save 16 = .ok (.iconst 0, 1) := by decide +kernel
theorem dX10_save_17 : decode cX10_save 17 = .ok (.istore_n 1, 1) := by decide +kernel
theorem dX10_save_18 : decode cX10_save 18 = .ok (.iload_n 1, 1) := by decide +kernel
theorem dX10_save_19 : decode cX10_save 19 = .ok (.bipush 6, 2) := by decide +kernel
theorem dX10_save_21 : decode cX10_save 21 = .ok (.if_icmp .ge 21, 3) := by decide +kernel
theorem dX10_save_24 : decode cX10_save 24 = .ok (.aload_n 0, 1) := by decide +kernel
theorem dX10_save_25 : decode cX10_save 25 = .ok (.getfield 103, 3) := by decide +kernel
theorem dX10_save_28 : decode cX10_save 28 = .ok (.iload_n 1, 1) := by decide +kernel
theorem dX10_save_29 : decode cX10_save 29 = .ok (.aload_n 0, 1) := by decide +kernel
theorem dX10_save_30 : decode cX10_save 30 = .ok (.getfield 26, 3) := by decide +kernel
theorem dX10_save_33 : decode cX10_save 33 = .ok (.iload_n 1, 1) := by decide +kernel
theorem dX10_save_34 : decode cX10_save 34 = .ok (.iaload, 1) := by decide +kernel
theorem dX10_save_35 : decode cX10_save 35 = .ok (.iastore, 1) := by decide +kernel
theorem dX10_save_36 : decode cX10_save 36 = .ok (.iinc 1 1, 3) := by decide +kernel
theorem dX10_save_39 : decode cX10_save 39 = .ok (.goto (-21), 3) := by decide +kernel
theorem dX10_save_42 : decode cX10_save 42 = .ok (.return_, 1) := by decide +kernel
theorem dX10_putBack_0 : decode cX10_putBack 0 = .ok (.aload_n 0, 1) := by decide +kernel
theorem dX10_putBack_1 : decode cX10_putBack 1 = .ok (.aload_n 0, 1) := by decide +kernel
theorem dX10_putBack_2 : decode cX10_putBack 2 = .ok (.getfield 97, 3) := by decide +kernel
theorem dX10_putBack_5 : decode cX10_putBack 5 = .ok (.putfield 13, 3) := by decide +kernel
theorem dX10_putBack_8 : decode cX10_putBack 8 = .ok (.aload_n 0, 1) := by decide +kernel
theorem dX10_putBack_9 : decode cX10_putBack 9 = .ok (.aload_n 0, 1) := by decide +kernel
theorem dX10_putBack_10 : decode cX10_putBack 10 = .ok (.getfield 100, 3) := by decide +kernel
theorem dX10_putBack_13 : decode cX10_putBack 13 = .ok (.putfield 16, 3) := by decide +kernel
theorem dX10_putBack_16 : decode cX10_putBack 16 = .ok (.iconst 0, 1) := by decide +kernel
theorem dX10_putBack_17 : decode cX10_putBack 17 = .ok (.istore_n 1, 1) := by decide +kernel
theorem dX10_putBack_18 : decode cX10_putBack 18 = .ok (.iload_n 1, 1) := by decide +kernel
theorem dX10_putBack_19 : decode cX10_putBack 19 = .ok (.bipush 6, 2) := by decide +kernel
theorem dX10_putBack_21 : decode cX10_putBack 21 = .ok (.if_icmp .ge 21, 3) := by decide +kernel
theorem dX10_putBack_24 : decode cX10_putBack 24 = .ok (.aload_n 0, 1) := by decide +kernel
theorem dX10_putBack_25 : decode cX10_putBack 25 = .ok (.getfield 26, 3) := by decide +kernel
theorem dX10_putBack_28 : decode cX10_putBack 28 = .ok (.iload_n 1, 1) := by decide +kernel
theorem dX10_putBack_29 : decode cX10_putBack 29 = .ok (.aload_n 0, 1) := by decide +kernel
theorem dX10_putBack_30 : decode cX10_putBack 30 = .ok (.getfield 103, 3) := by decide +kernel
theorem dX10_putBack_33 : decode cX10_putBack 33 = .ok (.iload_n 1, 1) := by decide +kernel
theorem dX10_putBack_34 : decode cX10_putBack 34 = .ok (.iaload, 1) := by decide +kernel
theorem dX10_putBack_35 : decode cX10_putBack 35 = .ok (.iastore, 1) := by decide +kernel
theorem dX10_putBack_36 : decode cX10_putBack 36 = .ok (.iinc 1 1, 3) := by decide +kernel
theorem dX10_putBack_39 : decode cX10_putBack 39 = .ok (.goto (-21), 3) := by decide +kernel
theorem dX10_putBack_42 : decode cX10_putBack 42 = .ok (.return_, 1) := by decide +kernel
theorem dX10_whole__0 : decode cX10_whole_ 0 = .ok (.aload_n 0, 1) := by decide +kernel
theorem dX10_whole__1 : decode cX10_whole_ 1 = .ok (.invokevirtual 321, 3) := by decide +kernel
theorem dX10_whole__4 : decode cX10_whole_ 4 = .ok (.iconst 0, 1) := by decide +kernel
theorem dX10_whole__5 : decode cX10_whole_ 5 = .ok (.istore_n 2, 1) := by decide +kernel
theorem dX10_whole__6 : decode cX10_whole_ 6 = .ok (.iload_n 2, 1) := by decide +kernel
theorem dX10_whole__7 : decode cX10_whole_ 7 = .ok (.bipush 61, 2) := by decide +kernel
theorem dX10_whole__9 : decode cX10_whole_ 9 = .ok (.if_icmp .ge 23, 3) := by decide +kernel
theorem dX10_whole__12 : decode cX10_whole_ 12 = .ok (.aload_n 0, 1) := by decide +kernel
theorem dX10_whole__13 : decode cX10_whole_ 13 = .ok (.iload_n 1, 1) := by decide +kernel
theorem dX10_whole__14 : decode cX10_whole_ 14 = .ok (.invokevirtual 300, 3) := by decide +kernel
theorem dX10_whole__17 : decode cX10_whole_ 17 = .ok (.ifCond .ne 15, 3) := by decide +kernel
theorem dX10_whole__20 : decode cX10_whole_ 20 = .ok (.aload_n 0, 1) := by decide +kernel
theorem dX10_whole__21 : decode cX10_whole_ 21 = .ok (.iload_n 1, 1) := by decide +kernel
theorem dX10_whole__22 : decode cX10_whole_ 22 = .ok (.invokevirtual 315, 3) := by decide +kernel
theorem dX10_whole__25 : decode cX10_whole_ 25 = .ok (.pop, 1) := by decide +kernel
theorem dX10_whole__26 : decode cX10_whole_ 26 = .ok (.iinc 2 1, 3) := by decide +kernel
theorem dX10_whole__29 : decode cX10_whole_ 29 = .ok (.goto (-23), 3) := by decide +kernel
theorem dX10_whole__32 : decode cX10_whole_ 32 = .ok (.aload_n 0, 1) := by decide +kernel
theorem dX10_whole__33 : decode cX10_whole_ 33 = .ok (.invokevirtual 324, 3) := by decide +kernel
theorem dX10_whole__36 : decode cX10_whole_ 36 = .ok (.iload_n 2, 1) := by decide +kernel
theorem dX10_whole__37 : decode cX10_whole_ 37 = .ok (.bipush 61, 2) := by decide +kernel
theorem dX10_whole__39 : decode cX10_whole_ 39 = .ok (.if_icmp .ge 7, 3) := by decide +kernel
theorem dX10_whole__42 : decode cX10_whole_ 42 = .ok (.iload_n 2, 1) := by decide +kernel
theorem dX10_whole__43 : decode cX10_whole_ 43 = .ok (.goto 5, 3) := by decide +kernel
theorem dX10_whole__46 : decode cX10_whole_ 46 = .ok (.bipush (-5), 2) := by decide +kernel
theorem dX10_whole__48 : decode cX10_whole_ 48 = .ok (.ireturn, 1) := by decide +kernel
theorem dX10_of_0 : decode cX10_of 0 = .ok (.aload_n 0, 1) := by decide +kernel
theorem dX10_of_1 : decode cX10_of 1 = .ok (.iload_n 1, 1) := by decide +kernel
theorem dX10_of_2 : decode cX10_of 2 = .ok (.invokevirtual 220, 3) := by decide +kernel
theorem dX10_of_5 : decode cX10_of 5 = .ok (.ifCond .ne 5, 3) := by decide +kernel
theorem dX10_of_8 : decode cX10_of 8 = .ok (.iconst (-1), 1) := by decide +kernel
theorem dX10_of_9 : decode cX10_of 9 = .ok (.ireturn, 1) := by decide +kernel
theorem dX10_of_10 : decode cX10_of 10 = .ok (.iload_n 2, 1) := by decide +kernel
theorem dX10_of_11 : decode cX10_of 11 = .ok (.tableswitch 108 0 7 #[45, 52, 59, 66, 84, 90, 96, 102], 45) := by decide +kernel
theorem dX10_of_56 : decode cX10_of 56 = .ok (.aload_n 0, 1) := by decide +kernel
theorem dX10_of_57 : decode cX10_of 57 = .ok (.getfield 19, 3) := by decide +kernel
theorem dX10_of_60 : decode cX10_of 60 = .ok (.iload_n 1, 1) := by decide +kernel
theorem dX10_of_61 : decode cX10_of 61 = .ok (.iaload, 1) := by decide +kernel
theorem dX10_of_62 : decode cX10_of 62 = .ok (.ireturn, 1) := by decide +kernel
theorem dX10_of_63 : decode cX10_of 63 = .ok (.aload_n 0, 1) := by decide +kernel
theorem dX10_of_64 : decode cX10_of 64 = .ok (.getfield 23, 3) := by decide +kernel
theorem dX10_of_67 : decode cX10_of 67 = .ok (.iload_n 1, 1) := by decide +kernel
theorem dX10_of_68 : decode cX10_of 68 = .ok (.iaload, 1) := by decide +kernel
theorem dX10_of_69 : decode cX10_of 69 = .ok (.ireturn, 1) := by decide +kernel
theorem dX10_of_70 : decode cX10_of 70 = .ok (.aload_n 0, 1) := by decide +kernel
theorem dX10_of_71 : decode cX10_of 71 = .ok (.getfield 26, 3) := by decide +kernel
theorem dX10_of_74 : decode cX10_of 74 = .ok (.iload_n 1, 1) := by decide +kernel
theorem dX10_of_75 : decode cX10_of 75 = .ok (.iaload, 1) := by decide +kernel
theorem dX10_of_76 : decode cX10_of 76 = .ok (.ireturn, 1) := by decide +kernel
theorem dX10_of_77 : decode cX10_of 77 = .ok (.aload_n 0, 1) := by decide +kernel
theorem dX10_of_78 : decode cX10_of 78 = .ok (.aload_n 0, 1) := by decide +kernel
theorem dX10_of_79 : decode cX10_of 79 = .ok (.getfield 13, 3) := by decide +kernel
theorem dX10_of_82 : decode cX10_of 82 = .ok (.iload_n 1, 1) := by decide +kernel
theorem dX10_of_83 : decode cX10_of 83 = .ok (.invokevirtual 224, 3) := by decide +kernel
theorem dX10_of_86 : decode cX10_of 86 = .ok (.ifCond .eq 7, 3) := by decide +kernel
theorem dX10_of_89 : decode cX10_of 89 = .ok (.iconst 1, 1) := by decide +kernel
theorem dX10_of_90 : decode cX10_of 90 = .ok (.goto 4, 3) := by decide +kernel
theorem dX10_of_93 : decode cX10_of 93 = .ok (.iconst 0, 1) := by decide +kernel
theorem dX10_of_94 : decode cX10_of 94 = .ok (.ireturn, 1) := by decide +kernel
theorem dX10_of_95 : decode cX10_of 95 = .ok (.aload_n 0, 1) := by decide +kernel
theorem dX10_of_96 : decode cX10_of 96 = .ok (.iload_n 1, 1) := by decide +kernel
theorem dX10_of_97 : decode cX10_of 97 = .ok (.invokevirtual 303, 3) := by decide +kernel
theorem dX10_of_100 : decode cX10_of 100 = .ok (.ireturn, 1) := by decide +kernel
theorem dX10_of_101 : decode cX10_of 101 = .ok (.aload_n 0, 1) := by decide +kernel
theorem dX10_of_102 : decode cX10_of 102 = .ok (.iload_n 1, 1) := by decide +kernel
theorem dX10_of_103 : decode cX10_of 103 = .ok (.invokevirtual 309, 3) := by decide +kernel
theorem dX10_of_106 : decode cX10_of 106 = .ok (.ireturn, 1) := by decide +kernel
theorem dX10_of_107 : decode cX10_of 107 = .ok (.aload_n 0, 1) := by decide +kernel
theorem dX10_of_108 : decode cX10_of 108 = .ok (.iload_n 1, 1) := by decide +kernel
theorem dX10_of_109 : decode cX10_of 109 = .ok (.invokevirtual 327, 3) := by decide +kernel
theorem dX10_of_112 : decode cX10_of 112 = .ok (.ireturn, 1) := by decide +kernel
theorem dX10_of_113 : decode cX10_of 113 = .ok (.aload_n 0, 1) := by decide +kernel
theorem dX10_of_114 : decode cX10_of 114 = .ok (.iload_n 1, 1) := by decide +kernel
theorem dX10_of_115 : decode cX10_of 115 = .ok (.invokevirtual 330, 3) := by decide +kernel
theorem dX10_of_118 : decode cX10_of 118 = .ok (.ireturn, 1) := by decide +kernel
theorem dX10_of_119 : decode cX10_of 119 = .ok (.iconst (-1), 1) := by decide +kernel
theorem dX10_of_120 : decode cX10_of 120 = .ok (.ireturn, 1) := by decide +kernel
theorem dX10_told_0 : decode cX10_told 0 = .ok (.iload_n 1, 1) := by decide +kernel
theorem dX10_told_1 : decode cX10_told 1 = .ok (.tableswitch 51 0 3 #[31, 36, 41, 46], 31) := by decide +kernel
theorem dX10_told_32 : decode cX10_told 32 = .ok (.aload_n 0, 1) := by decide +kernel
theorem dX10_told_33 : decode cX10_told 33 = .ok (.getfield 16, 3) := by decide +kernel
theorem dX10_told_36 : decode cX10_told 36 = .ok (.ireturn, 1) := by decide +kernel
theorem dX10_told_37 : decode cX10_told 37 = .ok (.aload_n 0, 1) := by decide +kernel
theorem dX10_told_38 : decode cX10_told 38 = .ok (.invokevirtual 297, 3) := by decide +kernel
theorem dX10_told_41 : decode cX10_told 41 = .ok (.ireturn, 1) := by decide +kernel
theorem dX10_told_42 : decode cX10_told 42 = .ok (.aload_n 0, 1) := by decide +kernel
theorem dX10_told_43 : decode cX10_told 43 = .ok (.invokevirtual 332, 3) := by decide +kernel
theorem dX10_told_46 : decode cX10_told 46 = .ok (.ireturn, 1) := by decide +kernel
theorem dX10_told_47 : decode cX10_told 47 = .ok (.aload_n 0, 1) := by decide +kernel
theorem dX10_told_48 : decode cX10_told 48 = .ok (.invokevirtual 335, 3) := by decide +kernel
theorem dX10_told_51 : decode cX10_told 51 = .ok (.ireturn, 1) := by decide +kernel
theorem dX10_told_52 : decode cX10_told 52 = .ok (.iconst (-1), 1) := by decide +kernel
theorem dX10_told_53 : decode cX10_told 53 = .ok (.ireturn, 1) := by decide +kernel
theorem dX10_goEvenings_0 : decode cX10_goEvenings 0 = .ok (.iconst 0, 1) := by decide +kernel
theorem dX10_goEvenings_1 : decode cX10_goEvenings 1 = .ok (.istore_n 3, 1) := by decide +kernel
theorem dX10_goEvenings_2 : decode cX10_goEvenings 2 = .ok (.iload_n 3, 1) := by decide +kernel
theorem dX10_goEvenings_3 : decode cX10_goEvenings 3 = .ok (.iload_n 2, 1) := by decide +kernel
theorem dX10_goEvenings_4 : decode cX10_goEvenings 4 = .ok (.if_icmp .ge 15, 3) := by decide +kernel
theorem dX10_goEvenings_7 : decode cX10_goEvenings 7 = .ok (.aload_n 0, 1) := by decide +kernel
theorem dX10_goEvenings_8 : decode cX10_goEvenings 8 = .ok (.iload_n 1, 1) := by decide +kernel
theorem dX10_goEvenings_9 : decode cX10_goEvenings 9 = .ok (.invokevirtual 315, 3) := by decide +kernel
theorem dX10_goEvenings_12 : decode cX10_goEvenings 12 = .ok (.pop, 1) := by decide +kernel
theorem dX10_goEvenings_13 : decode cX10_goEvenings 13 = .ok (.iinc 3 1, 3) := by decide +kernel
theorem dX10_goEvenings_16 : decode cX10_goEvenings 16 = .ok (.goto (-14), 3) := by decide +kernel
theorem dX10_goEvenings_19 : decode cX10_goEvenings 19 = .ok (.return_, 1) := by decide +kernel
theorem dX10_on_0 : decode cX10_on 0 = .ok (.aload_n 0, 1) := by decide +kernel
theorem dX10_on_1 : decode cX10_on 1 = .ok (.iload_n 1, 1) := by decide +kernel
theorem dX10_on_2 : decode cX10_on 2 = .ok (.invokevirtual 220, 3) := by decide +kernel
theorem dX10_on_5 : decode cX10_on 5 = .ok (.ifCond .eq 13, 3) := by decide +kernel
theorem dX10_on_8 : decode cX10_on 8 = .ok (.aload_n 0, 1) := by decide +kernel
theorem dX10_on_9 : decode cX10_on 9 = .ok (.iload_n 3, 1) := by decide +kernel
theorem dX10_on_10 : decode cX10_on 10 = .ok (.iconst 0, 1) := by decide +kernel
theorem dX10_on_11 : decode cX10_on 11 = .ok (.iconst 2, 1) := by decide +kernel
theorem dX10_on_12 : decode cX10_on 12 = .ok (.invokevirtual 212, 3) := by decide +kernel
theorem dX10_on_15 : decode cX10_on 15 = .ok (.ifCond .ne 5, 3) := by decide +kernel
theorem dX10_on_18 : decode cX10_on 18 = .ok (.iconst (-1), 1) := by decide +kernel
theorem dX10_on_19 : decode cX10_on 19 = .ok (.ireturn, 1) := by decide +kernel
theorem dX10_on_20 : decode cX10_on 20 = .ok (.aload_n 0, 1) := by decide +kernel
theorem dX10_on_21 : decode cX10_on 21 = .ok (.iload_n 2, 1) := by decide +kernel
theorem dX10_on_22 : decode cX10_on 22 = .ok (.invokevirtual 318, 3) := by decide +kernel
theorem dX10_on_25 : decode cX10_on 25 = .ok (.ifCond .ne 6, 3) := by decide +kernel
theorem dX10_on_28 : decode cX10_on 28 = .ok (.bipush (-2), 2) := by decide +kernel
theorem dX10_on_30 : decode cX10_on 30 = .ok (.ireturn, 1) := by decide +kernel
theorem dX10_on_31 : decode cX10_on 31 = .ok (.aload_n 0, 1) := by decide +kernel
theorem dX10_on_32 : decode cX10_on 32 = .ok (.invokevirtual 321, 3) := by decide +kernel
theorem dX10_on_35 : decode cX10_on 35 = .ok (.aload_n 0, 1) := by decide +kernel
theorem dX10_on_36 : decode cX10_on 36 = .ok (.iload_n 1, 1) := by decide +kernel
theorem dX10_on_37 : decode cX10_on 37 = .ok (.iload_n 2, 1) := by decide +kernel
theorem dX10_on_38 : decode cX10_on 38 = .ok (.invokevirtual 338, 3) := by decide +kernel
theorem dX10_on_41 : decode cX10_on 41 = .ok (.iload_n 3, 1) := by decide +kernel
theorem dX10_on_42 : decode cX10_on 42 = .ok (.ifCond .ne 12, 3) := by decide +kernel
theorem dX10_on_45 : decode cX10_on 45 = .ok (.aload_n 0, 1) := by decide +kernel
theorem dX10_on_46 : decode cX10_on 46 = .ok (.getfield 26, 3) := by decide +kernel
theorem dX10_on_49 : decode cX10_on 49 = .ok (.iload_n 1, 1) := by decide +kernel
theorem dX10_on_50 : decode cX10_on 50 = .ok (.iaload, 1) := by decide +kernel
theorem dX10_on_51 : decode cX10_on 51 = .ok (.goto 33, 3) := by decide +kernel
theorem dX10_on_54 : decode cX10_on 54 = .ok (.iload_n 3, 1) := by decide +kernel
theorem dX10_on_55 : decode cX10_on 55 = .ok (.iconst 1, 1) := by decide +kernel
theorem dX10_on_56 : decode cX10_on 56 = .ok (.if_icmp .ne 23, 3) := by decide +kernel
theorem dX10_on_59 : decode cX10_on 59 = .ok (.aload_n 0, 1) := by decide +kernel
theorem dX10_on_60 : decode cX10_on 60 = .ok (.aload_n 0, 1) := by decide +kernel
theorem dX10_on_61 : decode cX10_on 61 = .ok (.getfield 13, 3) := by decide +kernel
theorem dX10_on_64 : decode cX10_on 64 = .ok (.iload_n 1, 1) := by decide +kernel
theorem dX10_on_65 : decode cX10_on 65 = .ok (.invokevirtual 224, 3) := by decide +kernel
theorem dX10_on_68 : decode cX10_on 68 = .ok (.ifCond .eq 7, 3) := by decide +kernel
theorem dX10_on_71 : decode cX10_on 71 = .ok (.iconst 1, 1) := by decide +kernel
theorem dX10_on_72 : decode cX10_on 72 = .ok (.goto 12, 3) := by decide +kernel
theorem dX10_on_75 : decode cX10_on 75 = .ok (.iconst 0, 1) := by decide +kernel
theorem dX10_on_76 : decode cX10_on 76 = .ok (.goto 8, 3) := by decide +kernel
theorem dX10_on_79 : decode cX10_on 79 = .ok (.aload_n 0, 1) := by decide +kernel
theorem dX10_on_80 : decode cX10_on 80 = .ok (.iload_n 1, 1) := by decide +kernel
theorem dX10_on_81 : decode cX10_on 81 = .ok (.invokevirtual 303, 3) := by decide +kernel
theorem dX10_on_84 : decode cX10_on 84 = .ok (.istore 4, 2) := by decide +kernel
theorem dX10_on_86 : decode cX10_on 86 = .ok (.aload_n 0, 1) := by decide +kernel
theorem dX10_on_87 : decode cX10_on 87 = .ok (.invokevirtual 324, 3) := by decide +kernel
theorem dX10_on_90 : decode cX10_on 90 = .ok (.iload 4, 2) := by decide +kernel
theorem dX10_on_92 : decode cX10_on 92 = .ok (.ireturn, 1) := by decide +kernel
theorem dX10_layTurn_0 : decode cX10_layTurn 0 = .ok (.iload_n 1, 1) := by decide +kernel
theorem dX10_layTurn_1 : decode cX10_layTurn 1 = .ok (.istore_n 2, 1) := by decide +kernel
theorem dX10_layTurn_2 : decode cX10_layTurn 2 = .ok (.iconst 0, 1) := by decide +kernel
theorem dX10_layTurn_3 : decode cX10_layTurn 3 = .ok (.istore_n 3, 1) := by decide +kernel
theorem dX10_layTurn_4 : decode cX10_layTurn 4 = .ok (.aload_n 0, 1) := by decide +kernel
theorem dX10_layTurn_5 : decode cX10_layTurn 5 = .ok (.getfield 7, 3) := by decide +kernel
theorem dX10_layTurn_8 : decode cX10_layTurn 8 = .ok (.iconst 1, 1) := by decide +kernel
theorem dX10_layTurn_9 : decode cX10_layTurn 9 = .ok (.isub, 1) := by decide +kernel
theorem dX10_layTurn_10 : decode cX10_layTurn 10 = .ok (.istore 4, 2) := by decide +kernel
theorem dX10_layTurn_12 : decode cX10_layTurn 12 = .ok (.iload 4, 2) := by decide +kernel
theorem dX10_layTurn_14 : decode cX10_layTurn 14 = .ok (.ifCond .lt 68, 3) := by decide +kernel
theorem dX10_layTurn_17 : decode cX10_layTurn 17 = .ok (.aload_n 0, 1) := by decide +kernel
theorem dX10_layTurn_18 : decode cX10_layTurn 18 = .ok (.getfield 106, 3) := by decide +kernel
theorem dX10_layTurn_21 : decode cX10_layTurn 21 = .ok (.iload 4, 2) := by decide +kernel
theorem dX10_layTurn_23 : decode cX10_layTurn 23 = .ok (.iload_n 2, 1) := by decide +kernel
theorem dX10_layTurn_24 : decode cX10_layTurn 24 = .ok (.bipush 6, 2) := by decide +kernel
theorem dX10_layTurn_26 : decode cX10_layTurn 26 = .ok (.irem, 1) := by decide +kernel
theorem dX10_layTurn_27 : decode cX10_layTurn 27 = .ok (.iastore, 1) := by decide +kernel
theorem dX10_layTurn_28 : decode cX10_layTurn 28 = .ok (.iload_n 2, 1) := by decide +kernel
theorem dX10_layTurn_29 : decode cX10_layTurn 29 = .ok (.bipush 6, 2) := by decide +kernel
theorem dX10_layTurn_31 : decode cX10_layTurn 31 = .ok (.idiv, 1) := by decide +kernel
theorem dX10_layTurn_32 : decode cX10_layTurn 32 = .ok (.istore_n 2, 1) := by decide +kernel
theorem dX10_layTurn_33 : decode cX10_layTurn 33 = .ok (.aload_n 0, 1) := by decide +kernel
theorem dX10_layTurn_34 : decode cX10_layTurn 34 = .ok (.getfield 106, 3) := by decide +kernel
theorem dX10_layTurn_37 : decode cX10_layTurn 37 = .ok (.iload 4, 2) := by decide +kernel
theorem dX10_layTurn_39 : decode cX10_layTurn 39 = .ok (.iaload, 1) := by decide +kernel
theorem dX10_layTurn_40 : decode cX10_layTurn 40 = .ok (.aload_n 0, 1) := by decide +kernel
theorem dX10_layTurn_41 : decode cX10_layTurn 41 = .ok (.getfield 7, 3) := by decide +kernel
theorem dX10_layTurn_44 : decode cX10_layTurn 44 = .ok (.if_icmp .ge 18, 3) := by decide +kernel
theorem dX10_layTurn_47 : decode cX10_layTurn 47 = .ok (.aload_n 0, 1) := by decide +kernel
theorem dX10_layTurn_48 : decode cX10_layTurn 48 = .ok (.iload_n 3, 1) := by decide +kernel
theorem dX10_layTurn_49 : decode cX10_layTurn 49 = .ok (.aload_n 0, 1) := by decide +kernel
theorem dX10_layTurn_50 : decode cX10_layTurn 50 = .ok (.getfield 106, 3) := by decide +kernel
theorem dX10_layTurn_53 : decode cX10_layTurn 53 = .ok (.iload 4, 2) := by decide +kernel
theorem dX10_layTurn_55 : decode cX10_layTurn 55 = .ok (.iaload, 1) := by decide +kernel
theorem dX10_layTurn_56 : decode cX10_layTurn 56 = .ok (.invokevirtual 224, 3) := by decide +kernel
theorem dX10_layTurn_59 : decode cX10_layTurn 59 = .ok (.ifCond .eq 5, 3) := by decide +kernel
theorem dX10_layTurn_62 : decode cX10_layTurn 62 = .ok (.iconst 0, 1) := by decide +kernel
theorem dX10_layTurn_63 : decode cX10_layTurn 63 = .ok (.ireturn, 1) := by decide +kernel
theorem dX10_layTurn_64 : decode cX10_layTurn 64 = .ok (.iload_n 3, 1) := by decide +kernel
theorem dX10_layTurn_65 : decode cX10_layTurn 65 = .ok (.iconst 1, 1) := by decide +kernel
theorem dX10_layTurn_66 : decode cX10_layTurn 66 = .ok (.aload_n 0, 1) := by decide +kernel
theorem dX10_layTurn_67 : decode cX10_layTurn 67 = .ok (.getfield 106, 3) := by decide +kernel
theorem dX10_layTurn_70 : decode cX10_layTurn 70 = .ok (.iload 4, 2) := by decide +kernel
theorem dX10_layTurn_72 : decode cX10_layTurn 72 = .ok (.iaload, 1) := by decide +kernel
theorem dX10_layTurn_73 : decode cX10_layTurn 73 = .ok (.ishl, 1) := by decide +kernel
theorem dX10_layTurn_74 : decode cX10_layTurn 74 = .ok (.ior, 1) := by decide +kernel
theorem dX10_layTurn_75 : decode cX10_layTurn 75 = .ok (.istore_n 3, 1) := by decide +kernel
theorem dX10_layTurn_76 : decode cX10_layTurn 76 = .ok (.iinc 4 (-1), 3) := by decide +kernel
theorem dX10_layTurn_79 : decode cX10_layTurn 79 = .ok (.goto (-67), 3) := by decide +kernel
theorem dX10_layTurn_82 : decode cX10_layTurn 82 = .ok (.iconst 1, 1) := by decide +kernel
theorem dX10_layTurn_83 : decode cX10_layTurn 83 = .ok (.ireturn, 1) := by decide +kernel
theorem dX10_goWhole_0 : decode cX10_goWhole 0 = .ok (.iconst 0, 1) := by decide +kernel
theorem dX10_goWhole_1 : decode cX10_goWhole 1 = .ok (.istore_n 2, 1) := by decide +kernel
theorem dX10_goWhole_2 : decode cX10_goWhole 2 = .ok (.iload_n 2, 1) := by decide +kernel
theorem dX10_goWhole_3 : decode cX10_goWhole 3 = .ok (.bipush 20, 2) := by decide +kernel
theorem dX10_goWhole_5 : decode cX10_goWhole 5 = .ok (.if_icmp .ge 35, 3) := by decide +kernel
theorem dX10_goWhole_8 : decode cX10_goWhole 8 = .ok (.aload_n 0, 1) := by decide +kernel
theorem dX10_goWhole_9 : decode cX10_goWhole 9 = .ok (.iload_n 1, 1) := by decide +kernel
theorem dX10_goWhole_10 : decode cX10_goWhole 10 = .ok (.invokevirtual 300, 3) := by decide +kernel
theorem dX10_goWhole_13 : decode cX10_goWhole 13 = .ok (.ifCond .ne 27, 3) := by decide +kernel
theorem dX10_goWhole_16 : decode cX10_goWhole 16 = .ok (.aload_n 0, 1) := by decide +kernel
theorem dX10_goWhole_17 : decode cX10_goWhole 17 = .ok (.aload_n 0, 1) := by decide +kernel
theorem dX10_goWhole_18 : decode cX10_goWhole 18 = .ok (.getfield 13, 3) := by decide +kernel
theorem dX10_goWhole_21 : decode cX10_goWhole 21 = .ok (.iload_n 1, 1) := by decide +kernel
theorem dX10_goWhole_22 : decode cX10_goWhole 22 = .ok (.invokevirtual 224, 3) := by decide +kernel
theorem dX10_goWhole_25 : decode cX10_goWhole 25 = .ok (.ifCond .ne 15, 3) := by decide +kernel
theorem dX10_goWhole_28 : decode cX10_goWhole 28 = .ok (.aload_n 0, 1) := by decide +kernel
theorem dX10_goWhole_29 : decode cX10_goWhole 29 = .ok (.iload_n 1, 1) := by decide +kernel
theorem dX10_goWhole_30 : decode cX10_goWhole 30 = .ok (.invokevirtual 315, 3) := by decide +kernel
theorem dX10_goWhole_33 : decode cX10_goWhole 33 = .ok (.pop, 1) := by decide +kernel
theorem dX10_goWhole_34 : decode cX10_goWhole 34 = .ok (.iinc 2 1, 3) := by decide +kernel
theorem dX10_goWhole_37 : decode cX10_goWhole 37 = .ok (.goto (-35), 3) := by decide +kernel
theorem dX10_goWhole_40 : decode cX10_goWhole 40 = .ok (.iload_n 2, 1) := by decide +kernel
theorem dX10_goWhole_41 : decode cX10_goWhole 41 = .ok (.ireturn, 1) := by decide +kernel
theorem dX10_goTurn_0 : decode cX10_goTurn 0 = .ok (.aload_n 0, 1) := by decide +kernel
theorem dX10_goTurn_1 : decode cX10_goTurn 1 = .ok (.invokevirtual 321, 3) := by decide +kernel
theorem dX10_goTurn_4 : decode cX10_goTurn 4 = .ok (.iconst 0, 1) := by decide +kernel
theorem dX10_goTurn_5 : decode cX10_goTurn 5 = .ok (.istore_n 1, 1) := by decide +kernel
theorem dX10_goTurn_6 : decode cX10_goTurn 6 = .ok (.iconst 0, 1) := by decide +kernel
theorem dX10_goTurn_7 : decode cX10_goTurn 7 = .ok (.istore_n 2, 1) := by decide +kernel
theorem dX10_goTurn_8 : decode cX10_goTurn 8 = .ok (.iload_n 2, 1) := by decide +kernel
theorem dX10_goTurn_9 : decode cX10_goTurn 9 = .ok (.aload_n 0, 1) := by decide +kernel
theorem dX10_goTurn_10 : decode cX10_goTurn 10 = .ok (.getfield 7, 3) := by decide +kernel
theorem dX10_goTurn_13 : decode cX10_goTurn 13 = .ok (.if_icmp .ge 22, 3) := by decide +kernel
theorem dX10_goTurn_16 : decode cX10_goTurn 16 = .ok (.iload_n 1, 1) := by decide +kernel
theorem dX10_goTurn_17 : decode cX10_goTurn 17 = .ok (.aload_n 0, 1) := by decide +kernel
theorem dX10_goTurn_18 : decode cX10_goTurn 18 = .ok (.aload_n 0, 1) := by decide +kernel
theorem dX10_goTurn_19 : decode cX10_goTurn 19 = .ok (.getfield 106, 3) := by decide +kernel
theorem dX10_goTurn_22 : decode cX10_goTurn 22 = .ok (.iload_n 2, 1) := by decide +kernel
theorem dX10_goTurn_23 : decode cX10_goTurn 23 = .ok (.iaload, 1) := by decide +kernel
theorem dX10_goTurn_24 : decode cX10_goTurn 24 = .ok (.invokevirtual 342, 3) := by decide +kernel
theorem dX10_goTurn_27 : decode cX10_goTurn 27 = .ok (.iadd, 1) := by decide +kernel
theorem dX10_goTurn_28 : decode cX10_goTurn 28 = .ok (.istore_n 1, 1) := by decide +kernel
theorem dX10_goTurn_29 : decode cX10_goTurn 29 = .ok (.iinc 2 1, 3) := by decide +kernel
theorem dX10_goTurn_32 : decode cX10_goTurn 32 = .ok (.goto (-24), 3) := by decide +kernel
theorem dX10_goTurn_35 : decode cX10_goTurn 35 = .ok (.aload_n 0, 1) := by decide +kernel
theorem dX10_goTurn_36 : decode cX10_goTurn 36 = .ok (.invokevirtual 324, 3) := by decide +kernel
theorem dX10_goTurn_39 : decode cX10_goTurn 39 = .ok (.iload_n 1, 1) := by decide +kernel
theorem dX10_goTurn_40 : decode cX10_goTurn 40 = .ok (.ireturn, 1) := by decide +kernel
theorem dX10_soonest_0 : decode cX10_soonest 0 = .ok (.aload_n 0, 1) := by decide +kernel
theorem dX10_soonest_1 : decode cX10_soonest 1 = .ok (.iload_n 1, 1) := by decide +kernel
theorem dX10_soonest_2 : decode cX10_soonest 2 = .ok (.iconst (-1), 1) := by decide +kernel
theorem dX10_soonest_3 : decode cX10_soonest 3 = .ok (.iconst 5, 1) := by decide +kernel
theorem dX10_soonest_4 : decode cX10_soonest 4 = .ok (.invokevirtual 212, 3) := by decide +kernel
theorem dX10_soonest_7 : decode cX10_soonest 7 = .ok (.ifCond .ne 5, 3) := by decide +kernel
theorem dX10_soonest_10 : decode cX10_soonest 10 = .ok (.iconst (-1), 1) := by decide +kernel
theorem dX10_soonest_11 : decode cX10_soonest 11 = .ok (.ireturn, 1) := by decide +kernel
theorem dX10_soonest_12 : decode cX10_soonest 12 = .ok (.aload_n 0, 1) := by decide +kernel
theorem dX10_soonest_13 : decode cX10_soonest 13 = .ok (.invokevirtual 345, 3) := by decide +kernel
theorem dX10_soonest_16 : decode cX10_soonest 16 = .ok (.iconst 1, 1) := by decide +kernel
theorem dX10_soonest_17 : decode cX10_soonest 17 = .ok (.istore_n 2, 1) := by decide +kernel
theorem dX10_soonest_18 : decode cX10_soonest 18 = .ok (.iconst 0, 1) := by decide +kernel
theorem dX10_soonest_19 : decode cX10_soonest 19 = .ok (.istore_n 3, 1) := by decide +kernel
theorem dX10_soonest_20 : decode cX10_soonest 20 = .ok (.iload_n 3, 1) := by decide +kernel
theorem dX10_soonest_21 : decode cX10_soonest 21 = .ok (.aload_n 0, 1) := by decide +kernel
theorem dX10_soonest_22 : decode cX10_soonest 22 = .ok (.getfield 7, 3) := by decide +kernel
theorem dX10_soonest_25 : decode cX10_soonest 25 = .ok (.if_icmp .ge 14, 3) := by decide +kernel
theorem dX10_soonest_28 : decode cX10_soonest 28 = .ok (.iload_n 2, 1) := by decide +kernel
theorem dX10_soonest_29 : decode cX10_soonest 29 = .ok (.bipush 6, 2) := by decide +kernel
theorem dX10_soonest_31 : decode cX10_soonest 31 = .ok (.imul, 1) := by decide +kernel
theorem dX10_soonest_32 : decode cX10_soonest 32 = .ok (.istore_n 2, 1) := by decide +kernel
theorem dX10_soonest_33 : decode cX10_soonest 33 = .ok (.iinc 3 1, 3) := by decide +kernel
theorem dX10_soonest_36 : decode cX10_soonest 36 = .ok (.goto (-16), 3) := by decide +kernel
theorem dX10_soonest_39 : decode cX10_soonest 39 = .ok (.iconst (-1), 1) := by decide +kernel
theorem dX10_soonest_40 : decode cX10_soonest 40 = .ok (.istore_n 3, 1) := by decide +kernel
theorem dX10_soonest_41 : decode cX10_soonest 41 = .ok (.iconst 0, 1) := by decide +kernel
theorem dX10_soonest_42 : decode cX10_soonest 42 = .ok (.istore 4, 2) := by decide +kernel
theorem dX10_soonest_44 : decode cX10_soonest 44 = .ok (.iload 4, 2) := by decide +kernel
theorem dX10_soonest_46 : decode cX10_soonest 46 = .ok (.iload_n 2, 1) := by decide +kernel
theorem dX10_soonest_47 : decode cX10_soonest 47 = .ok (.if_icmp .ge 73, 3) := by decide +kernel
theorem dX10_soonest_50 : decode cX10_soonest 50 = .ok (.aload_n 0, 1) := by decide +kernel
theorem dX10_soonest_51 : decode cX10_soonest 51 = .ok (.iload 4, 2) := by decide +kernel
theorem dX10_soonest_53 : decode cX10_soonest 53 = .ok (.invokevirtual 348, 3) := by decide +kernel
theorem dX10_soonest_56 : decode cX10_soonest 56 = .ok (.ifCond .ne 6, 3) := by decide +kernel
theorem dX10_soonest_59 : decode cX10_soonest 59 = .ok (.goto 55, 3) := by decide +kernel
theorem dX10_soonest_62 : decode cX10_soonest 62 = .ok (.aload_n 0, 1) := by decide +kernel
theorem dX10_soonest_63 : decode cX10_soonest 63 = .ok (.invokevirtual 351, 3) := by decide +kernel
theorem dX10_soonest_66 : decode cX10_soonest 66 = .ok (.istore 5, 2) := by decide +kernel
theorem dX10_soonest_68 : decode cX10_soonest 68 = .ok (.iload_n 3, 1) := by decide +kernel
theorem dX10_soonest_69 : decode cX10_soonest 69 = .ok (.ifCond .lt 12, 3) := by decide +kernel
theorem dX10_soonest_72 : decode cX10_soonest 72 = .ok (.iload 5, 2) := by decide +kernel
theorem dX10_soonest_74 : decode cX10_soonest 74 = .ok (.iload_n 3, 1) := by decide +kernel
theorem dX10_soonest_75 : decode cX10_soonest 75 = .ok (.if_icmp .lt 6, 3) := by decide +kernel
theorem dX10_soonest_78 : decode cX10_soonest 78 = .ok (.goto 36, 3) := by decide +kernel
theorem dX10_soonest_81 : decode cX10_soonest 81 = .ok (.iload 5, 2) := by decide +kernel
theorem dX10_soonest_83 : decode cX10_soonest 83 = .ok (.istore_n 3, 1) := by decide +kernel
theorem dX10_soonest_84 : decode cX10_soonest 84 = .ok (.iconst 0, 1) := by decide +kernel
theorem dX10_soonest_85 : decode cX10_soonest 85 = .ok (.istore 6, 2) := by decide +kernel
theorem dX10_soonest_87 : decode cX10_soonest 87 = .ok (.iload 6, 2) := by decide +kernel
theorem dX10_soonest_89 : decode cX10_soonest 89 = .ok (.bipush 6, 2) := by decide +kernel
theorem dX10_soonest_91 : decode cX10_soonest 91 = .ok (.if_icmp .ge 23, 3) := by decide +kernel
theorem dX10_soonest_94 : decode cX10_soonest 94 = .ok (.aload_n 0, 1) := by decide +kernel
theorem dX10_soonest_95 : decode cX10_soonest 95 = .ok (.getfield 109, 3) := by decide +kernel
theorem dX10_soonest_98 : decode cX10_soonest 98 = .ok (.iload 6, 2) := by decide +kernel
theorem dX10_soonest_100 : decode cX10_soonest 100 = .ok (.aload_n 0, 1) := by decide +kernel
theorem dX10_soonest_101 : decode cX10_soonest 101 = .ok (.getfield 106, 3) := by decide +kernel
theorem dX10_soonest_104 : decode cX10_soonest 104 = .ok (.iload 6, 2) := by decide +kernel
theorem dX10_soonest_106 : decode cX10_soonest 106 = .ok (.iaload, 1) := by decide +kernel
theorem dX10_soonest_107 : decode cX10_soonest 107 = .ok (.iastore, 1) := by decide +kernel
theorem dX10_soonest_108 : decode cX10_soonest 108 = .ok (.iinc 6 1, 3) := by decide +kernel
theorem dX10_soonest_111 : decode cX10_soonest 111 = .ok (.goto (-24), 3) := by decide +kernel
theorem dX10_soonest_114 : decode cX10_soonest 114 = .ok (.iinc 4 1, 3) := by decide +kernel
theorem dX10_soonest_117 : decode cX10_soonest 117 = .ok (.goto (-73), 3) := by decide +kernel
theorem dX10_soonest_120 : decode cX10_soonest 120 = .ok (.aload_n 0, 1) := by decide +kernel
theorem dX10_soonest_121 : decode cX10_soonest 121 = .ok (.iconst 0, 1) := by decide +kernel
theorem dX10_soonest_122 : decode cX10_soonest 122 = .ok (.putfield 87, 3) := by decide +kernel
theorem dX10_soonest_125 : decode cX10_soonest 125 = .ok (.iload_n 1, 1) := by decide +kernel
theorem dX10_soonest_126 : decode cX10_soonest 126 = .ok (.ifCond .ge 5, 3) := by decide +kernel
theorem dX10_soonest_129 : decode cX10_soonest 129 = .ok (.iload_n 3, 1) := by decide +kernel
theorem dX10_soonest_130 : decode cX10_soonest 130 = .ok (.ireturn, 1) := by decide +kernel
theorem dX10_soonest_131 : decode cX10_soonest 131 = .ok (.iload_n 1, 1) := by decide +kernel
theorem dX10_soonest_132 : decode cX10_soonest 132 = .ok (.aload_n 0, 1) := by decide +kernel
theorem dX10_soonest_133 : decode cX10_soonest 133 = .ok (.getfield 7, 3) := by decide +kernel
theorem dX10_soonest_136 : decode cX10_soonest 136 = .ok (.if_icmp .ge 12, 3) := by decide +kernel
theorem dX10_soonest_139 : decode cX10_soonest 139 = .ok (.aload_n 0, 1) := by decide +kernel
theorem dX10_soonest_140 : decode cX10_soonest 140 = .ok (.getfield 109, 3) := by decide +kernel
theorem dX10_soonest_143 : decode cX10_soonest 143 = .ok (.iload_n 1, 1) := by decide +kernel
theorem dX10_soonest_144 : decode cX10_soonest 144 = .ok (.iaload, 1) := by decide +kernel
theorem dX10_soonest_145 : decode cX10_soonest 145 = .ok (.goto 5, 3) := by decide +kernel
theorem dX10_soonest_148 : decode cX10_soonest 148 = .ok (.bipush (-5), 2) := by decide +kernel
theorem dX10_soonest_150 : decode cX10_soonest 150 = .ok (.ireturn, 1) := by decide +kernel
theorem dX10_most_0 : decode cX10_most 0 = .ok (.aload_n 0, 1) := by decide +kernel
theorem dX10_most_1 : decode cX10_most 1 = .ok (.iload_n 2, 1) := by decide +kernel
theorem dX10_most_2 : decode cX10_most 2 = .ok (.iconst (-1), 1) := by decide +kernel
theorem dX10_most_3 : decode cX10_most 3 = .ok (.iconst 4, 1) := by decide +kernel
theorem dX10_most_4 : decode cX10_most 4 = .ok (.invokevirtual 212, 3) := by decide +kernel
theorem dX10_most_7 : decode cX10_most 7 = .ok (.ifCond .ne 5, 3) := by decide +kernel
theorem dX10_most_10 : decode cX10_most 10 = .ok (.iconst (-1), 1) := by decide +kernel
theorem dX10_most_11 : decode cX10_most 11 = .ok (.ireturn, 1) := by decide +kernel
theorem dX10_most_12 : decode cX10_most 12 = .ok (.aload_n 0, 1) := by decide +kernel
theorem dX10_most_13 : decode cX10_most 13 = .ok (.iload_n 1, 1) := by decide +kernel
theorem dX10_most_14 : decode cX10_most 14 = .ok (.iconst 1, 1) := by decide +kernel
theorem dX10_most_15 : decode cX10_most 15 = .ok (.iconst 5, 1) := by decide +kernel
theorem dX10_most_16 : decode cX10_most 16 = .ok (.invokevirtual 212, 3) := by decide +kernel
theorem dX10_most_19 : decode cX10_most 19 = .ok (.ifCond .ne 6, 3) := by decide +kernel
theorem dX10_most_22 : decode cX10_most 22 = .ok (.bipush (-2), 2) := by decide +kernel
theorem dX10_most_24 : decode cX10_most 24 = .ok (.ireturn, 1) := by decide +kernel
theorem dX10_most_25 : decode cX10_most 25 = .ok (.aload_n 0, 1) := by decide +kernel
theorem dX10_most_26 : decode cX10_most 26 = .ok (.getfield 7, 3) := by decide +kernel
theorem dX10_most_29 : decode cX10_most 29 = .ok (.ifCond .ne 6, 3) := by decide +kernel
theorem dX10_most_32 : decode cX10_most 32 = .ok (.bipush (-5), 2) := by decide +kernel
theorem dX10_most_34 : decode cX10_most 34 = .ok (.ireturn, 1) := by decide +kernel
theorem dX10_most_35 : decode cX10_most 35 = .ok (.aload_n 0, 1) := by decide +kernel
theorem dX10_most_36 : decode cX10_most 36 = .ok (.invokevirtual 345, 3) := by decide +kernel
theorem dX10_most_39 : decode cX10_most 39 = .ok (.iconst 1, 1) := by decide +kernel
theorem dX10_most_40 : decode cX10_most 40 = .ok (.istore_n 3, 1) := by decide +kernel
theorem dX10_most_41 : decode cX10_most 41 = .ok (.iconst 0, 1) := by decide +kernel
theorem dX10_most_42 : decode cX10_most 42 = .ok (.istore 4, 2) := by decide +kernel
theorem dX10_most_44 : decode cX10_most 44 = .ok (.iload 4, 2) := by decide +kernel
theorem dX10_most_46 : decode cX10_most 46 = .ok (.iload_n 1, 1) := by decide +kernel
theorem dX10_most_47 : decode cX10_most 47 = .ok (.if_icmp .ge 16, 3) := by decide +kernel
theorem dX10_most_50 : decode cX10_most 50 = .ok (.iload_n 3, 1) := by decide +kernel
theorem dX10_most_51 : decode cX10_most 51 = .ok (.aload_n 0, 1) := by decide +kernel
theorem dX10_most_52 : decode cX10_most 52 = .ok (.getfield 7, 3) := by decide +kernel
theorem dX10_most_55 : decode cX10_most 55 = .ok (.imul, 1) := by decide +kernel
theorem dX10_most_56 : decode cX10_most 56 = .ok (.istore_n 3, 1) := by decide +kernel
theorem dX10_most_57 : decode cX10_most 57 = .ok (.iinc 4 1, 3) := by decide +kernel
theorem dX10_most_60 : decode cX10_most 60 = .ok (.goto (-16), 3) := by decide +kernel
theorem dX10_most_63 : decode cX10_most 63 = .ok (.iconst 0, 1) := by decide +kernel
theorem dX10_most_64 : decode cX10_most 64 = .ok (.istore 4, 2) := by decide +kernel
theorem dX10_most_66 : decode cX10_most 66 = .ok (.iconst (-1), 1) := by decide +kernel
theorem dX10_most_67 : decode cX10_most 67 = .ok (.istore 5, 2) := by decide +kernel
theorem dX10_most_69 : decode cX10_most 69 = .ok (.iconst 0, 1) := by decide +kernel
theorem dX10_most_70 : decode cX10_most 70 = .ok (.istore 6, 2) := by decide +kernel
theorem dX10_most_72 : decode cX10_most 72 = .ok (.iload 6, 2) := by decide +kernel
theorem dX10_most_74 : decode cX10_most 74 = .ok (.iload_n 3, 1) := by decide +kernel
theorem dX10_most_75 : decode cX10_most 75 = .ok (.if_icmp .ge 98, 3) := by decide +kernel
theorem dX10_most_78 : decode cX10_most 78 = .ok (.aload_n 0, 1) := by decide +kernel
theorem dX10_most_79 : decode cX10_most 79 = .ok (.invokevirtual 321, 3) := by decide +kernel
theorem dX10_most_82 : decode cX10_most 82 = .ok (.iload_n 3, 1) := by decide +kernel
theorem dX10_most_83 : decode cX10_most 83 = .ok (.aload_n 0, 1) := by decide +kernel
theorem dX10_most_84 : decode cX10_most 84 = .ok (.getfield 7, 3) := by decide +kernel
theorem dX10_most_87 : decode cX10_most 87 = .ok (.idiv, 1) := by decide +kernel
theorem dX10_most_88 : decode cX10_most 88 = .ok (.istore 7, 2) := by decide +kernel
theorem dX10_most_90 : decode cX10_most 90 = .ok (.iconst 0, 1) := by decide +kernel
theorem dX10_most_91 : decode cX10_most 91 = .ok (.istore 8, 2) := by decide +kernel
theorem dX10_most_93 : decode cX10_most 93 = .ok (.iload 8, 2) := by decide +kernel
theorem dX10_most_95 : decode cX10_most 95 = .ok (.iload_n 1, 1) := by decide +kernel
theorem dX10_most_96 : decode cX10_most 96 = .ok (.if_icmp .ge 43, 3) := by decide +kernel
theorem dX10_most_99 : decode cX10_most 99 = .ok (.aload_n 0, 1) := by decide +kernel
theorem dX10_most_100 : decode cX10_most 100 = .ok (.iload 6, 2) := by decide +kernel
theorem dX10_most_102 : decode cX10_most 102 = .ok (.iload 7, 2) := by decide +kernel
theorem dX10_most_104 : decode cX10_most 104 = .ok (.idiv, 1) := by decide +kernel
theorem dX10_most_105 : decode cX10_most 105 = .ok (.aload_n 0, 1) := by decide +kernel
theorem dX10_most_106 : decode cX10_most 106 = .ok (.getfield 7, 3) := by decide +kernel
theorem dX10_most_109 : decode cX10_most 109 = .ok (.irem, 1) := by decide +kernel
theorem dX10_most_110 : decode cX10_most 110 = .ok (.invokevirtual 315, 3) := by decide +kernel
theorem dX10_most_113 : decode cX10_most 113 = .ok (.pop, 1) := by decide +kernel
theorem dX10_most_114 : decode cX10_most 114 = .ok (.iload 7, 2) := by decide +kernel
theorem dX10_most_116 : decode cX10_most 116 = .ok (.iconst 1, 1) := by decide +kernel
theorem dX10_most_117 : decode cX10_most 117 = .ok (.if_icmp .le 13, 3) := by decide +kernel
theorem dX10_most_120 : decode cX10_most 120 = .ok (.iload 7, 2) := by decide +kernel
theorem dX10_most_122 : decode cX10_most 122 = .ok (.aload_n 0, 1) := by decide +kernel
theorem dX10_most_123 : decode cX10_most 123 = .ok (.getfield 7, 3) := by decide +kernel
theorem dX10_most_126 : decode cX10_most 126 = .ok (.idiv, 1) := by decide +kernel
theorem dX10_most_127 : decode cX10_most 127 = .ok (.goto 4, 3) := by decide +kernel
theorem dX10_most_130 : decode cX10_most 130 = .ok (.iconst 1, 1) := by decide +kernel
theorem dX10_most_131 : decode cX10_most 131 = .ok (.istore 7, 2) := by decide +kernel
theorem dX10_most_133 : decode cX10_most 133 = .ok (.iinc 8 1, 3) := by decide +kernel
theorem dX10_most_136 : decode cX10_most 136 = .ok (.goto (-43), 3) := by decide +kernel
theorem dX10_most_139 : decode cX10_most 139 = .ok (.aload_n 0, 1) := by decide +kernel
theorem dX10_most_140 : decode cX10_most 140 = .ok (.invokevirtual 332, 3) := by decide +kernel
theorem dX10_most_143 : decode cX10_most 143 = .ok (.istore 8, 2) := by decide +kernel
theorem dX10_most_145 : decode cX10_most 145 = .ok (.aload_n 0, 1) := by decide +kernel
theorem dX10_most_146 : decode cX10_most 146 = .ok (.invokevirtual 324, 3) := by decide +kernel
theorem dX10_most_149 : decode cX10_most 149 = .ok (.iload 8, 2) := by decide +kernel
theorem dX10_most_151 : decode cX10_most 151 = .ok (.iload 5, 2) := by decide +kernel
theorem dX10_most_153 : decode cX10_most 153 = .ok (.if_icmp .gt 6, 3) := by decide +kernel
theorem dX10_most_156 : decode cX10_most 156 = .ok (.goto 11, 3) := by decide +kernel
theorem dX10_most_159 : decode cX10_most 159 = .ok (.iload 6, 2) := by decide +kernel
theorem dX10_most_161 : decode cX10_most 161 = .ok (.istore 4, 2) := by decide +kernel
theorem dX10_most_163 : decode cX10_most 163 = .ok (.iload 8, 2) := by decide +kernel
theorem dX10_most_165 : decode cX10_most 165 = .ok (.istore 5, 2) := by decide +kernel
theorem dX10_most_167 : decode cX10_most 167 = .ok (.iinc 6 1, 3) := by decide +kernel
theorem dX10_most_170 : decode cX10_most 170 = .ok (.goto (-98), 3) := by decide +kernel
theorem dX10_most_173 : decode cX10_most 173 = .ok (.aload_n 0, 1) := by decide +kernel
theorem dX10_most_174 : decode cX10_most 174 = .ok (.iconst 0, 1) := by decide +kernel
theorem dX10_most_175 : decode cX10_most 175 = .ok (.putfield 87, 3) := by decide +kernel
theorem dX10_most_178 : decode cX10_most 178 = .ok (.iload_n 2, 1) := by decide +kernel
theorem dX10_most_179 : decode cX10_most 179 = .ok (.ifCond .ge 6, 3) := by decide +kernel
theorem dX10_most_182 : decode cX10_most 182 = .ok (.iload 5, 2) := by decide +kernel
theorem dX10_most_184 : decode cX10_most 184 = .ok (.ireturn, 1) := by decide +kernel
theorem dX10_most_185 : decode cX10_most 185 = .ok (.iload_n 2, 1) := by decide +kernel
theorem dX10_most_186 : decode cX10_most 186 = .ok (.iload_n 1, 1) := by decide +kernel
theorem dX10_most_187 : decode cX10_most 187 = .ok (.if_icmp .lt 6, 3) := by decide +kernel
theorem dX10_most_190 : decode cX10_most 190 = .ok (.bipush (-5), 2) := by decide +kernel
theorem dX10_most_192 : decode cX10_most 192 = .ok (.ireturn, 1) := by decide +kernel
theorem dX10_most_193 : decode cX10_most 193 = .ok (.iconst 1, 1) := by decide +kernel
theorem dX10_most_194 : decode cX10_most 194 = .ok (.istore 6, 2) := by decide +kernel
theorem dX10_most_196 : decode cX10_most 196 = .ok (.iload_n 2, 1) := by decide +kernel
theorem dX10_most_197 : decode cX10_most 197 = .ok (.iconst 1, 1) := by decide +kernel
theorem dX10_most_198 : decode cX10_most 198 = .ok (.iadd, 1) := by decide +kernel
theorem dX10_most_199 : decode cX10_most 199 = .ok (.istore 7, 2) := by decide +kernel
theorem dX10_most_201 : decode cX10_most 201 = .ok (.iload 7, 2) := by decide +kernel
theorem dX10_most_203 : decode cX10_most 203 = .ok (.iload_n 1, 1) := by decide +kernel
theorem dX10_most_204 : decode cX10_most 204 = .ok (.if_icmp .ge 18, 3) := by decide +kernel
theorem dX10_most_207 : decode cX10_most 207 = .ok (.iload 6, 2) := by decide +kernel
theorem dX10_most_209 : decode cX10_most 209 = .ok (.aload_n 0, 1) := by decide +kernel
theorem dX10_most_210 : decode cX10_most 210 = .ok (.getfield 7, 3) := by decide +kernel
theorem dX10_most_213 : decode cX10_most 213 = .ok (.imul, 1) := by decide +kernel
theorem dX10_most_214 : decode cX10_most 214 = .ok (.istore 6, 2) := by decide +kernel
theorem dX10_most_216 : decode cX10_most 216 = .ok (.iinc 7 1, 3) := by decide +kernel
theorem dX10_most_219 : decode cX10_most 219 = .ok (.goto (-18), 3) := by decide +kernel
theorem dX10_most_222 : decode cX10_most 222 = .ok (.iload 4, 2) := by decide +kernel
theorem dX10_most_224 : decode cX10_most 224 = .ok (.iload 6, 2) := by decide +kernel
theorem dX10_most_226 : decode cX10_most 226 = .ok (.idiv, 1) := by decide +kernel
theorem dX10_most_227 : decode cX10_most 227 = .ok (.aload_n 0, 1) := by decide +kernel
theorem dX10_most_228 : decode cX10_most 228 = .ok (.getfield 7, 3) := by decide +kernel
theorem dX10_most_231 : decode cX10_most 231 = .ok (.irem, 1) := by decide +kernel
theorem dX10_most_232 : decode cX10_most 232 = .ok (.ireturn, 1) := by decide +kernel
theorem dX10_next_0 : decode cX10_next 0 = .ok (.bipush (-5), 2) := by decide +kernel
theorem dX10_next_2 : decode cX10_next 2 = .ok (.istore_n 1, 1) := by decide +kernel
theorem dX10_next_3 : decode cX10_next 3 = .ok (.iconst 0, 1) := by decide +kernel
theorem dX10_next_4 : decode cX10_next 4 = .ok (.istore_n 2, 1) := by decide +kernel
theorem dX10_next_5 : decode cX10_next 5 = .ok (.iconst 0, 1) := by decide +kernel
theorem dX10_next_6 : decode cX10_next 6 = .ok (.istore_n 3, 1) := by decide +kernel
theorem dX10_next_7 : decode cX10_next 7 = .ok (.iload_n 3, 1) := by decide +kernel
theorem dX10_next_8 : decode cX10_next 8 = .ok (.aload_n 0, 1) := by decide +kernel
theorem dX10_next_9 : decode cX10_next 9 = .ok (.getfield 7, 3) := by decide +kernel
theorem dX10_next_12 : decode cX10_next 12 = .ok (.if_icmp .ge 47, 3) := by decide +kernel
theorem dX10_next_15 : decode cX10_next 15 = .ok (.aload_n 0, 1) := by decide +kernel
theorem dX10_next_16 : decode cX10_next 16 = .ok (.invokevirtual 321, 3) := by decide +kernel
theorem dX10_next_19 : decode cX10_next 19 = .ok (.aload_n 0, 1) := by decide +kernel
theorem dX10_next_20 : decode cX10_next 20 = .ok (.iload_n 3, 1) := by decide +kernel
theorem dX10_next_21 : decode cX10_next 21 = .ok (.invokevirtual 315, 3) := by decide +kernel
theorem dX10_next_24 : decode cX10_next 24 = .ok (.pop, 1) := by decide +kernel
theorem dX10_next_25 : decode cX10_next 25 = .ok (.aload_n 0, 1) := by decide +kernel
theorem dX10_next_26 : decode cX10_next 26 = .ok (.invokevirtual 335, 3) := by decide +kernel
theorem dX10_next_29 : decode cX10_next 29 = .ok (.istore 4, 2) := by decide +kernel
theorem dX10_next_31 : decode cX10_next 31 = .ok (.aload_n 0, 1) := by decide +kernel
theorem dX10_next_32 : decode cX10_next 32 = .ok (.invokevirtual 324, 3) := by decide +kernel
theorem dX10_next_35 : decode cX10_next 35 = .ok (.iload_n 1, 1) := by decide +kernel
theorem dX10_next_36 : decode cX10_next 36 = .ok (.ifCond .lt 12, 3) := by decide +kernel
theorem dX10_next_39 : decode cX10_next 39 = .ok (.iload 4, 2) := by decide +kernel
theorem dX10_next_41 : decode cX10_next 41 = .ok (.iload_n 2, 1) := by decide +kernel
theorem dX10_next_42 : decode cX10_next 42 = .ok (.if_icmp .lt 6, 3) := by decide +kernel
theorem dX10_next_45 : decode cX10_next 45 = .ok (.goto 8, 3) := by decide +kernel
theorem dX10_next_48 : decode cX10_next 48 = .ok (.iload_n 3, 1) := by decide +kernel
theorem dX10_next_49 : decode cX10_next 49 = .ok (.istore_n 1, 1) := by decide +kernel
theorem dX10_next_50 : decode cX10_next 50 = .ok (.iload 4, 2) := by decide +kernel
theorem dX10_next_52 : decode cX10_next 52 = .ok (.istore_n 2, 1) := by decide +kernel
theorem dX10_next_53 : decode cX10_next 53 = .ok (.iinc 3 1, 3) := by decide +kernel
theorem dX10_next_56 : decode cX10_next 56 = .ok (.goto (-49), 3) := by decide +kernel
theorem dX10_next_59 : decode cX10_next 59 = .ok (.iload_n 1, 1) := by decide +kernel
theorem dX10_next_60 : decode cX10_next 60 = .ok (.ireturn, 1) := by decide +kernel
theorem dX10_see_0 : decode cX10_see 0 = .ok (.iload_n 1, 1) := by decide +kernel
theorem dX10_see_1 : decode cX10_see 1 = .ok (.iconst (-1), 1) := by decide +kernel
theorem dX10_see_2 : decode cX10_see 2 = .ok (.if_icmp .ne 10, 3) := by decide +kernel
theorem dX10_see_5 : decode cX10_see 5 = .ok (.aload_n 0, 1) := by decide +kernel
theorem dX10_see_6 : decode cX10_see 6 = .ok (.iconst 0, 1) := by decide +kernel
theorem dX10_see_7 : decode cX10_see 7 = .ok (.putfield 112, 3) := by decide +kernel
theorem dX10_see_10 : decode cX10_see 10 = .ok (.iconst 0, 1) := by decide +kernel
theorem dX10_see_11 : decode cX10_see 11 = .ok (.ireturn, 1) := by decide +kernel
theorem dX10_see_12 : decode cX10_see 12 = .ok (.aload_n 0, 1) := by decide +kernel
theorem dX10_see_13 : decode cX10_see 13 = .ok (.iload_n 1, 1) := by decide +kernel
theorem dX10_see_14 : decode cX10_see 14 = .ok (.invokevirtual 220, 3) := by decide +kernel
theorem dX10_see_17 : decode cX10_see 17 = .ok (.ifCond .ne 5, 3) := by decide +kernel
theorem dX10_see_20 : decode cX10_see 20 = .ok (.iconst (-1), 1) := by decide +kernel
theorem dX10_see_21 : decode cX10_see 21 = .ok (.ireturn, 1) := by decide +kernel
theorem dX10_see_22 : decode cX10_see 22 = .ok (.aload_n 0, 1) := by decide +kernel
theorem dX10_see_23 : decode cX10_see 23 = .ok (.iload_n 2, 1) := by decide +kernel
theorem dX10_see_24 : decode cX10_see 24 = .ok (.iconst 0, 1) := by decide +kernel
theorem dX10_see_25 : decode cX10_see 25 = .ok (.sipush 999, 3) := by decide +kernel
theorem dX10_see_28 : decode cX10_see 28 = .ok (.invokevirtual 212, 3) := by decide +kernel
theorem dX10_see_31 : decode cX10_see 31 = .ok (.ifCond .eq 14, 3) := by decide +kernel
theorem dX10_see_34 : decode cX10_see 34 = .ok (.aload_n 0, 1) := by decide +kernel
theorem dX10_see_35 : decode cX10_see 35 = .ok (.iload_n 3, 1) := by decide +kernel
theorem dX10_see_36 : decode cX10_see 36 = .ok (.iconst 0, 1) := by decide +kernel
theorem dX10_see_37 : decode cX10_see 37 = .ok (.bipush 20, 2) := by decide +kernel
theorem dX10_see_39 : decode cX10_see 39 = .ok (.invokevirtual 212, 3) := by decide +kernel
theorem dX10_see_42 : decode cX10_see 42 = .ok (.ifCond .ne 6, 3) := by decide +kernel
theorem dX10_see_45 : decode cX10_see 45 = .ok (.bipush (-2), 2) := by decide +kernel
theorem dX10_see_47 : decode cX10_see 47 = .ok (.ireturn, 1) := by decide +kernel
theorem dX10_see_48 : decode cX10_see 48 = .ok (.aload_n 0, 1) := by decide +kernel
theorem dX10_see_49 : decode cX10_see 49 = .ok (.getfield 112, 3) := by decide +kernel
theorem dX10_see_52 : decode cX10_see 52 = .ok (.iconst 5, 1) := by decide +kernel
theorem dX10_see_53 : decode cX10_see 53 = .ok (.if_icmp .ne 6, 3) := by decide +kernel
theorem dX10_see_56 : decode cX10_see 56 = .ok (.bipush (-4), 2) := by decide +kernel
theorem dX10_see_58 : decode cX10_see 58 = .ok (.ireturn, 1) := by decide +kernel
theorem dX10_see_59 : decode cX10_see 59 = .ok (.aload_n 0, 1) := by decide +kernel
theorem dX10_see_60 : decode cX10_see 60 = .ok (.getfield 115, 3) := by decide +kernel
theorem dX10_see_63 : decode cX10_see 63 = .ok (.aload_n 0, 1) := by decide +kernel
theorem dX10_see_64 : decode cX10_see 64 = .ok (.getfield 112, 3) := by decide +kernel
theorem dX10_see_67 : decode cX10_see 67 = .ok (.iload_n 1, 1) := by decide +kernel
theorem dX10_see_68 : decode cX10_see 68 = .ok (.iastore, 1) := by decide +kernel
theorem dX10_see_69 : decode cX10_see 69 = .ok (.aload_n 0, 1) := by decide +kernel
theorem dX10_see_70 : decode cX10_see 70 = .ok (.getfield 118, 3) := by decide +kernel
theorem dX10_see_73 : decode cX10_see 73 = .ok (.aload_n 0, 1) := by decide +kernel
theorem dX10_see_74 : decode cX10_see 74 = .ok (.getfield 112, 3) := by decide +kernel
theorem dX10_see_77 : decode cX10_see 77 = .ok (.iload_n 2, 1) := by decide +kernel
theorem dX10_see_78 : decode cX10_see 78 = .ok (.iastore, 1) := by decide +kernel
theorem dX10_see_79 : decode cX10_see 79 = .ok (.aload_n 0, 1) := by decide +kernel
theorem dX10_see_80 : decode cX10_see 80 = .ok (.getfield 121, 3) := by decide +kernel
theorem dX10_see_83 : decode cX10_see 83 = .ok (.aload_n 0, 1) := by decide +kernel
theorem dX10_see_84 : decode cX10_see 84 = .ok (.getfield 112, 3) := by decide +kernel
theorem dX10_see_87 : decode cX10_see 87 = .ok (.iload_n 3, 1) := by decide +kernel
theorem dX10_see_88 : decode cX10_see 88 = .ok (.iastore, 1) := by decide +kernel
theorem dX10_see_89 : decode cX10_see 89 = .ok (.aload_n 0, 1) := by decide +kernel
theorem dX10_see_90 : decode cX10_see 90 = .ok (.dup, 1) := by decide +kernel
theorem dX10_see_91 : decode cX10_see 91 = .ok (.getfield 112, 3) := by decide +kernel
theorem dX10_see_94 : decode cX10_see 94 = .ok (.iconst 1, 1) := by decide +kernel
theorem dX10_see_95 : decode cX10_see 95 = .ok (.iadd, 1) := by decide +kernel
theorem dX10_see_96 : decode cX10_see 96 = .ok (.putfield 112, 3) := by decide +kernel
theorem dX10_see_99 : decode cX10_see 99 = .ok (.aload_n 0, 1) := by decide +kernel
theorem dX10_see_100 : decode cX10_see 100 = .ok (.getfield 112, 3) := by decide +kernel
theorem dX10_see_103 : decode cX10_see 103 = .ok (.ireturn, 1) := by decide +kernel
theorem dX10_isSeen_0 : decode cX10_isSeen 0 = .ok (.iconst 1, 1) := by decide +kernel
theorem dX10_isSeen_1 : decode cX10_isSeen 1 = .ok (.istore_n 2, 1) := by decide +kernel
theorem dX10_isSeen_2 : decode cX10_isSeen 2 = .ok (.iconst 0, 1) := by decide +kernel
theorem dX10_isSeen_3 : decode cX10_isSeen 3 = .ok (.istore_n 3, 1) := by decide +kernel
theorem dX10_isSeen_4 : decode cX10_isSeen 4 = .ok (.iload_n 3, 1) := by decide +kernel
theorem dX10_isSeen_5 : decode cX10_isSeen 5 = .ok (.aload_n 0, 1) := by decide +kernel
theorem dX10_isSeen_6 : decode cX10_isSeen 6 = .ok (.getfield 112, 3) := by decide +kernel
theorem dX10_isSeen_9 : decode cX10_isSeen 9 = .ok (.if_icmp .ge 73, 3) := by decide +kernel
theorem dX10_isSeen_12 : decode cX10_isSeen 12 = .ok (.iload_n 2, 1) := by decide +kernel
theorem dX10_isSeen_13 : decode cX10_isSeen 13 = .ok (.ifCond .eq 69, 3) := by decide +kernel
theorem dX10_isSeen_16 : decode cX10_isSeen 16 = .ok (.aload_n 0, 1) := by decide +kernel
theorem dX10_isSeen_17 : decode cX10_isSeen 17 = .ok (.getfield 115, 3) := by decide +kernel
theorem dX10_isSeen_20 : decode cX10_isSeen 20 = .ok (.iload_n 3, 1) := by decide +kernel
theorem dX10_isSeen_21 : decode cX10_isSeen 21 = .ok (.iaload, 1) := by decide +kernel
theorem dX10_isSeen_22 : decode cX10_isSeen 22 = .ok (.iload_n 1, 1) := by decide +kernel
theorem dX10_isSeen_23 : decode cX10_isSeen 23 = .ok (.if_icmp .eq 6, 3) := by decide +kernel
theorem dX10_isSeen_26 : decode cX10_isSeen 26 = .ok (.goto 50, 3) := by decide +kernel
theorem dX10_isSeen_29 : decode cX10_isSeen 29 = .ok (.aload_n 0, 1) := by decide +kernel
theorem dX10_isSeen_30 : decode cX10_isSeen 30 = .ok (.invokevirtual 321, 3) := by decide +kernel
theorem dX10_isSeen_33 : decode cX10_isSeen 33 = .ok (.aload_n 0, 1) := by decide +kernel
theorem dX10_isSeen_34 : decode cX10_isSeen 34 = .ok (.iload_n 1, 1) := by decide +kernel
theorem dX10_isSeen_35 : decode cX10_isSeen 35 = .ok (.aload_n 0, 1) := by decide +kernel
theorem dX10_isSeen_36 : decode cX10_isSeen 36 = .ok (.getfield 121, 3) := by decide +kernel
theorem dX10_isSeen_39 : decode cX10_isSeen 39 = .ok (.iload_n 3, 1) := by decide +kernel
theorem dX10_isSeen_40 : decode cX10_isSeen 40 = .ok (.iaload, 1) := by decide +kernel
theorem dX10_isSeen_41 : decode cX10_isSeen 41 = .ok (.invokevirtual 338, 3) := by decide +kernel
theorem dX10_isSeen_44 : decode cX10_isSeen 44 = .ok (.aload_n 0, 1) := by decide +kernel
theorem dX10_isSeen_45 : decode cX10_isSeen 45 = .ok (.getfield 26, 3) := by decide +kernel
theorem dX10_isSeen_48 : decode cX10_isSeen 48 = .ok (.iload_n 1, 1) := by decide +kernel
theorem dX10_isSeen_49 : decode cX10_isSeen 49 = .ok (.iaload, 1) := by decide +kernel
theorem dX10_isSeen_50 : decode cX10_isSeen 50 = .ok (.aload_n 0, 1) := by decide +kernel
theorem dX10_isSeen_51 : decode cX10_isSeen 51 = .ok (.getfield 103, 3) := by decide +kernel
theorem dX10_isSeen_54 : decode cX10_isSeen 54 = .ok (.iload_n 1, 1) := by decide +kernel
theorem dX10_isSeen_55 : decode cX10_isSeen 55 = .ok (.iaload, 1) := by decide +kernel
theorem dX10_isSeen_56 : decode cX10_isSeen 56 = .ok (.isub, 1) := by decide +kernel
theorem dX10_isSeen_57 : decode cX10_isSeen 57 = .ok (.aload_n 0, 1) := by decide +kernel
theorem dX10_isSeen_58 : decode cX10_isSeen 58 = .ok (.getfield 118, 3) := by decide +kernel
theorem dX10_isSeen_61 : decode cX10_isSeen 61 = .ok (.iload_n 3, 1) := by decide +kernel
theorem dX10_isSeen_62 : decode cX10_isSeen 62 = .ok (.iaload, 1) := by decide +kernel
theorem dX10_isSeen_63 : decode cX10_isSeen 63 = .ok (.if_icmp .ne 7, 3) := by decide +kernel
theorem dX10_isSeen_66 : decode cX10_isSeen 66 = .ok (.iconst 1, 1) := by decide +kernel
theorem dX10_isSeen_67 : decode cX10_isSeen 67 = .ok (.goto 4, 3) := by decide +kernel
theorem dX10_isSeen_70 : decode cX10_isSeen 70 = .ok (.iconst 0, 1) := by decide +kernel
theorem dX10_isSeen_71 : decode cX10_isSeen 71 = .ok (.istore_n 2, 1) := by decide +kernel
theorem dX10_isSeen_72 : decode cX10_isSeen 72 = .ok (.aload_n 0, 1) := by decide +kernel
theorem dX10_isSeen_73 : decode cX10_isSeen 73 = .ok (.invokevirtual 324, 3) := by decide +kernel
theorem dX10_isSeen_76 : decode cX10_isSeen 76 = .ok (.iinc 3 1, 3) := by decide +kernel
theorem dX10_isSeen_79 : decode cX10_isSeen 79 = .ok (.goto (-75), 3) := by decide +kernel
theorem dX10_isSeen_82 : decode cX10_isSeen 82 = .ok (.iload_n 2, 1) := by decide +kernel
theorem dX10_isSeen_83 : decode cX10_isSeen 83 = .ok (.ireturn, 1) := by decide +kernel
theorem dX10_since_0 : decode cX10_since 0 = .ok (.aload_n 0, 1) := by decide +kernel
theorem dX10_since_1 : decode cX10_since 1 = .ok (.iload_n 1, 1) := by decide +kernel
theorem dX10_since_2 : decode cX10_since 2 = .ok (.invokevirtual 220, 3) := by decide +kernel
theorem dX10_since_5 : decode cX10_since 5 = .ok (.ifCond .eq 13, 3) := by decide +kernel
theorem dX10_since_8 : decode cX10_since 8 = .ok (.aload_n 0, 1) := by decide +kernel
theorem dX10_since_9 : decode cX10_since 9 = .ok (.iload_n 2, 1) := by decide +kernel
theorem dX10_since_10 : decode cX10_since 10 = .ok (.iconst 0, 1) := by decide +kernel
theorem dX10_since_11 : decode cX10_since 11 = .ok (.iconst 1, 1) := by decide +kernel
theorem dX10_since_12 : decode cX10_since 12 = .ok (.invokevirtual 212, 3) := by decide +kernel
theorem dX10_since_15 : decode cX10_since 15 = .ok (.ifCond .ne 5, 3) := by decide +kernel
theorem dX10_since_18 : decode cX10_since 18 = .ok (.iconst (-1), 1) := by decide +kernel
theorem dX10_since_19 : decode cX10_since 19 = .ok (.ireturn, 1) := by decide +kernel
theorem dX10_since_20 : decode cX10_since 20 = .ok (.aload_n 0, 1) := by decide +kernel
theorem dX10_since_21 : decode cX10_since 21 = .ok (.getfield 26, 3) := by decide +kernel
theorem dX10_since_24 : decode cX10_since 24 = .ok (.iload_n 1, 1) := by decide +kernel
theorem dX10_since_25 : decode cX10_since 25 = .ok (.iaload, 1) := by decide +kernel
theorem dX10_since_26 : decode cX10_since 26 = .ok (.istore_n 3, 1) := by decide +kernel
theorem dX10_since_27 : decode cX10_since 27 = .ok (.iconst 0, 1) := by decide +kernel
theorem dX10_since_28 : decode cX10_since 28 = .ok (.istore 4, 2) := by decide +kernel
theorem dX10_since_30 : decode cX10_since 30 = .ok (.bipush (-5), 2) := by decide +kernel
theorem dX10_since_32 : decode cX10_since 32 = .ok (.istore 5, 2) := by decide +kernel
theorem dX10_since_34 : decode cX10_since 34 = .ok (.aload_n 0, 1) := by decide +kernel
theorem dX10_since_35 : decode cX10_since 35 = .ok (.getfield 16, 3) := by decide +kernel
theorem dX10_since_38 : decode cX10_since 38 = .ok (.bipush 99, 2) := by decide +kernel
theorem dX10_since_40 : decode cX10_since 40 = .ok (.if_icmp .ge 10, 3) := by decide +kernel
theorem dX10_since_43 : decode cX10_since 43 = .ok (.aload_n 0, 1) := by decide +kernel
theorem dX10_since_44 : decode cX10_since 44 = .ok (.getfield 16, 3) := by decide +kernel
theorem dX10_since_47 : decode cX10_since 47 = .ok (.goto 5, 3) := by decide +kernel
theorem dX10_since_50 : decode cX10_since 50 = .ok (.bipush 99, 2) := by decide +kernel
theorem dX10_since_52 : decode cX10_since 52 = .ok (.istore 6, 2) := by decide +kernel
theorem dX10_since_54 : decode cX10_since 54 = .ok (.iload 6, 2) := by decide +kernel
theorem dX10_since_56 : decode cX10_since 56 = .ok (.ifCond .lt 40, 3) := by decide +kernel
theorem dX10_since_59 : decode cX10_since 59 = .ok (.aload_n 0, 1) := by decide +kernel
theorem dX10_since_60 : decode cX10_since 60 = .ok (.getfield 26, 3) := by decide +kernel
theorem dX10_since_63 : decode cX10_since 63 = .ok (.iload_n 1, 1) := by decide +kernel
theorem dX10_since_64 : decode cX10_since 64 = .ok (.aload_n 0, 1) := by decide +kernel
theorem dX10_since_65 : decode cX10_since 65 = .ok (.getfield 16, 3) := by decide +kernel
theorem dX10_since_68 : decode cX10_since 68 = .ok (.iload 6, 2) := by decide +kernel
theorem dX10_since_70 : decode cX10_since 70 = .ok (.isub, 1) := by decide +kernel
theorem dX10_since_71 : decode cX10_since 71 = .ok (.iastore, 1) := by decide +kernel
theorem dX10_since_72 : decode cX10_since 72 = .ok (.aload_n 0, 1) := by decide +kernel
theorem dX10_since_73 : decode cX10_since 73 = .ok (.iload_n 1, 1) := by decide +kernel
theorem dX10_since_74 : decode cX10_since 74 = .ok (.invokevirtual 354, 3) := by decide +kernel
theorem dX10_since_77 : decode cX10_since 77 = .ok (.ifCond .ne 6, 3) := by decide +kernel
theorem dX10_since_80 : decode cX10_since 80 = .ok (.goto 10, 3) := by decide +kernel
theorem dX10_since_83 : decode cX10_since 83 = .ok (.iinc 4 1, 3) := by decide +kernel
theorem dX10_since_86 : decode cX10_since 86 = .ok (.iload 6, 2) := by decide +kernel
theorem dX10_since_88 : decode cX10_since 88 = .ok (.istore 5, 2) := by decide +kernel
theorem dX10_since_90 : decode cX10_since 90 = .ok (.iinc 6 (-1), 3) := by decide +kernel
theorem dX10_since_93 : decode cX10_since 93 = .ok (.goto (-39), 3) := by decide +kernel
theorem dX10_since_96 : decode cX10_since 96 = .ok (.aload_n 0, 1) := by decide +kernel
theorem dX10_since_97 : decode cX10_since 97 = .ok (.getfield 26, 3) := by decide +kernel
theorem dX10_since_100 : decode cX10_since 100 = .ok (.iload_n 1, 1) := by decide +kernel
theorem dX10_since_101 : decode cX10_since 101 = .ok (.iload_n 3, 1) := by decide +kernel
theorem dX10_since_102 : decode cX10_since 102 = .ok (.iastore, 1) := by decide +kernel
theorem dX10_since_103 : decode cX10_since 103 = .ok (.iload_n 2, 1) := by decide +kernel
theorem dX10_since_104 : decode cX10_since 104 = .ok (.ifCond .ne 8, 3) := by decide +kernel
theorem dX10_since_107 : decode cX10_since 107 = .ok (.iload 4, 2) := by decide +kernel
theorem dX10_since_109 : decode cX10_since 109 = .ok (.goto 5, 3) := by decide +kernel
theorem dX10_since_112 : decode cX10_since 112 = .ok (.iload 5, 2) := by decide +kernel
theorem dX10_since_114 : decode cX10_since 114 = .ok (.ireturn, 1) := by decide +kernel
theorem dX10_can_0 : decode cX10_can 0 = .ok (.aload_n 0, 1) := by decide +kernel
theorem dX10_can_1 : decode cX10_can 1 = .ok (.iload_n 1, 1) := by decide +kernel
theorem dX10_can_2 : decode cX10_can 2 = .ok (.invokevirtual 220, 3) := by decide +kernel
theorem dX10_can_5 : decode cX10_can 5 = .ok (.ifCond .eq 13, 3) := by decide +kernel
theorem dX10_can_8 : decode cX10_can 8 = .ok (.aload_n 0, 1) := by decide +kernel
theorem dX10_can_9 : decode cX10_can 9 = .ok (.iload_n 2, 1) := by decide +kernel
theorem dX10_can_10 : decode cX10_can 10 = .ok (.iconst 0, 1) := by decide +kernel
theorem dX10_can_11 : decode cX10_can 11 = .ok (.iconst 1, 1) := by decide +kernel
theorem dX10_can_12 : decode cX10_can 12 = .ok (.invokevirtual 212, 3) := by decide +kernel
theorem dX10_can_15 : decode cX10_can 15 = .ok (.ifCond .ne 5, 3) := by decide +kernel
theorem dX10_can_18 : decode cX10_can 18 = .ok (.iconst (-1), 1) := by decide +kernel
theorem dX10_can_19 : decode cX10_can 19 = .ok (.ireturn, 1) := by decide +kernel
theorem dX10_can_20 : decode cX10_can 20 = .ok (.aload_n 0, 1) := by decide +kernel
theorem dX10_can_21 : decode cX10_can 21 = .ok (.getfield 23, 3) := by decide +kernel
theorem dX10_can_24 : decode cX10_can 24 = .ok (.iload_n 1, 1) := by decide +kernel
theorem dX10_can_25 : decode cX10_can 25 = .ok (.iaload, 1) := by decide +kernel
theorem dX10_can_26 : decode cX10_can 26 = .ok (.istore_n 3, 1) := by decide +kernel
theorem dX10_can_27 : decode cX10_can 27 = .ok (.iconst 0, 1) := by decide +kernel
theorem dX10_can_28 : decode cX10_can 28 = .ok (.istore 4, 2) := by decide +kernel
theorem dX10_can_30 : decode cX10_can 30 = .ok (.bipush (-5), 2) := by decide +kernel
theorem dX10_can_32 : decode cX10_can 32 = .ok (.istore 5, 2) := by decide +kernel
theorem dX10_can_34 : decode cX10_can 34 = .ok (.bipush 9, 2) := by decide +kernel
theorem dX10_can_36 : decode cX10_can 36 = .ok (.istore 6, 2) := by decide +kernel
