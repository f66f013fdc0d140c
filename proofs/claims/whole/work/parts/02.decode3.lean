theorem dX9_judge_9 : decode cX9_judge 9 = .ok (.aload_n 0, 1) := by decide +kernel
theorem dX9_judge_10 : decode cX9_judge 10 = .ok (.getfield 67, 3) := by decide +kernel
theorem dX9_judge_13 : decode cX9_judge 13 = .ok (.iload_n 1, 1) := by decide +kernel
theorem dX9_judge_14 : decode cX9_judge 14 = .ok (.aaload, 1) := by decide +kernel
theorem dX9_judge_15 : decode cX9_judge 15 = .ok (.astore_n 3, 1) := by decide +kernel
theorem dX9_judge_16 : decode cX9_judge 16 = .ok (.aload_n 3, 1) := by decide +kernel
theorem dX9_judge_17 : decode cX9_judge 17 = .ok (.getfield 238, 3) := by decide +kernel
theorem dX9_judge_20 : decode cX9_judge 20 = .ok (.iconst 1, 1) := by decide +kernel
theorem dX9_judge_21 : decode cX9_judge 21 = .ok (.if_icmp .eq 14, 3) := by decide +kernel
theorem dX9_judge_24 : decode cX9_judge 24 = .ok (.aload_n 3, 1) := by decide +kernel
theorem dX9_judge_25 : decode cX9_judge 25 = .ok (.getfield 238, 3) := by decide +kernel
theorem dX9_judge_28 : decode cX9_judge 28 = .ok (.iconst (-1), 1) := by decide +kernel
theorem dX9_judge_29 : decode cX9_judge 29 = .ok (.if_icmp .eq 6, 3) := by decide +kernel
theorem dX9_judge_32 : decode cX9_judge 32 = .ok (.bipush (-12), 2) := by decide +kernel
theorem dX9_judge_34 : decode cX9_judge 34 = .ok (.ireturn, 1) := by decide +kernel
theorem dX9_judge_35 : decode cX9_judge 35 = .ok (.iload_n 2, 1) := by decide +kernel
theorem dX9_judge_36 : decode cX9_judge 36 = .ok (.istore 4, 2) := by decide +kernel
theorem dX9_judge_38 : decode cX9_judge 38 = .ok (.iconst 0, 1) := by decide +kernel
theorem dX9_judge_39 : decode cX9_judge 39 = .ok (.istore 5, 2) := by decide +kernel
theorem dX9_judge_41 : decode cX9_judge 41 = .ok (.iload 5, 2) := by decide +kernel
theorem dX9_judge_43 : decode cX9_judge 43 = .ok (.aload_n 0, 1) := by decide +kernel
theorem dX9_judge_44 : decode cX9_judge 44 = .ok (.getfield 12, 3) := by decide +kernel
theorem dX9_judge_47 : decode cX9_judge 47 = .ok (.getfield 86, 3) := by decide +kernel
theorem dX9_judge_50 : decode cX9_judge 50 = .ok (.if_icmp .ge 55, 3) := by decide +kernel
theorem dX9_judge_53 : decode cX9_judge 53 = .ok (.aload_n 3, 1) := by decide +kernel
theorem dX9_judge_54 : decode cX9_judge 54 = .ok (.iload 4, 2) := by decide +kernel
theorem dX9_judge_56 : decode cX9_judge 56 = .ok (.invokevirtual 241, 3) := by decide +kernel
theorem dX9_judge_59 : decode cX9_judge 59 = .ok (.ifCond .ne 9, 3) := by decide +kernel
theorem dX9_judge_62 : decode cX9_judge 62 = .ok (.bipush 100, 2) := by decide +kernel
theorem dX9_judge_64 : decode cX9_judge 64 = .ok (.iload 5, 2) := by decide +kernel
theorem dX9_judge_66 : decode cX9_judge 66 = .ok (.iadd, 1) := by decide +kernel
theorem dX9_judge_67 : decode cX9_judge 67 = .ok (.ireturn, 1) := by decide +kernel
theorem dX9_judge_68 : decode cX9_judge 68 = .ok (.aload_n 3, 1) := by decide +kernel
theorem dX9_judge_69 : decode cX9_judge 69 = .ok (.getfield 244, 3) := by decide +kernel
theorem dX9_judge_72 : decode cX9_judge 72 = .ok (.iload 4, 2) := by decide +kernel
theorem dX9_judge_74 : decode cX9_judge 74 = .ok (.laload, 1) := by decide +kernel
theorem dX9_judge_75 : decode cX9_judge 75 = .ok (.aload_n 0, 1) := by decide +kernel
theorem dX9_judge_76 : decode cX9_judge 76 = .ok (.getfield 12, 3) := by decide +kernel
theorem dX9_judge_79 : decode cX9_judge 79 = .ok (.getfield 77, 3) := by decide +kernel
theorem dX9_judge_82 : decode cX9_judge 82 = .ok (.getfield 104, 3) := by decide +kernel
theorem dX9_judge_85 : decode cX9_judge 85 = .ok (.iload 5, 2) := by decide +kernel
theorem dX9_judge_87 : decode cX9_judge 87 = .ok (.iaload, 1) := by decide +kernel
theorem dX9_judge_88 : decode cX9_judge 88 = .ok (.i2l, 1) := by decide +kernel
theorem dX9_judge_89 : decode cX9_judge 89 = .ok (.lcmp, 1) := by decide +kernel
theorem dX9_judge_90 : decode cX9_judge 90 = .ok (.ifCond .eq 6, 3) := by decide +kernel
theorem dX9_judge_93 : decode cX9_judge 93 = .ok (.iload 5, 2) := by decide +kernel
theorem dX9_judge_95 : decode cX9_judge 95 = .ok (.ireturn, 1) := by decide +kernel
theorem dX9_judge_96 : decode cX9_judge 96 = .ok (.iinc 4 1, 3) := by decide +kernel
theorem dX9_judge_99 : decode cX9_judge 99 = .ok (.iinc 5 1, 3) := by decide +kernel
theorem dX9_judge_102 : decode cX9_judge 102 = .ok (.goto (-61), 3) := by decide +kernel
theorem dX9_judge_105 : decode cX9_judge 105 = .ok (.bipush (-5), 2) := by decide +kernel
theorem dX9_judge_107 : decode cX9_judge 107 = .ok (.ireturn, 1) := by decide +kernel
theorem dX9_image_0 : decode cX9_image 0 = .ok (.aload_n 0, 1) := by decide +kernel
theorem dX9_image_1 : decode cX9_image 1 = .ok (.getfield 18, 3) := by decide +kernel
theorem dX9_image_4 : decode cX9_image 4 = .ok (.aload_n 0, 1) := by decide +kernel
theorem dX9_image_5 : decode cX9_image 5 = .ok (.getfield 12, 3) := by decide +kernel
theorem dX9_image_8 : decode cX9_image 8 = .ok (.invokevirtual 248, 3) := by decide +kernel
theorem dX9_image_11 : decode cX9_image 11 = .ok (.aload_n 0, 1) := by decide +kernel
theorem dX9_image_12 : decode cX9_image 12 = .ok (.iconst 1, 1) := by decide +kernel
theorem dX9_image_13 : decode cX9_image 13 = .ok (.putfield 21, 3) := by decide +kernel
theorem dX9_image_16 : decode cX9_image 16 = .ok (.aload_n 0, 1) := by decide +kernel
theorem dX9_image_17 : decode cX9_image 17 = .ok (.getfield 12, 3) := by decide +kernel
theorem dX9_image_20 : decode cX9_image 20 = .ok (.getfield 86, 3) := by decide +kernel
theorem dX9_image_23 : decode cX9_image 23 = .ok (.ireturn, 1) := by decide +kernel
theorem dX9_undo_0 : decode cX9_undo 0 = .ok (.aload_n 0, 1) := by decide +kernel
theorem dX9_undo_1 : decode cX9_undo 1 = .ok (.getfield 21, 3) := by decide +kernel
theorem dX9_undo_4 : decode cX9_undo 4 = .ok (.ifCond .ne 6, 3) := by decide +kernel
theorem dX9_undo_7 : decode cX9_undo 7 = .ok (.bipush (-3), 2) := by decide +kernel
theorem dX9_undo_9 : decode cX9_undo 9 = .ok (.ireturn, 1) := by decide +kernel
theorem dX9_undo_10 : decode cX9_undo 10 = .ok (.aload_n 0, 1) := by decide +kernel
theorem dX9_undo_11 : decode cX9_undo 11 = .ok (.getfield 12, 3) := by decide +kernel
theorem dX9_undo_14 : decode cX9_undo 14 = .ok (.aload_n 0, 1) := by decide +kernel
theorem dX9_undo_15 : decode cX9_undo 15 = .ok (.getfield 18, 3) := by decide +kernel
theorem dX9_undo_18 : decode cX9_undo 18 = .ok (.invokevirtual 248, 3) := by decide +kernel
theorem dX9_undo_21 : decode cX9_undo 21 = .ok (.aload_n 0, 1) := by decide +kernel
theorem dX9_undo_22 : decode cX9_undo 22 = .ok (.getfield 12, 3) := by decide +kernel
theorem dX9_undo_25 : decode cX9_undo 25 = .ok (.getfield 86, 3) := by decide +kernel
theorem dX9_undo_28 : decode cX9_undo 28 = .ok (.ireturn, 1) := by decide +kernel
theorem dX9_act_0 : decode cX9_act 0 = .ok (.aload_n 0, 1) := by decide +kernel
theorem dX9_act_1 : decode cX9_act 1 = .ok (.getfield 61, 3) := by decide +kernel
theorem dX9_act_4 : decode cX9_act 4 = .ok (.iconst 0, 1) := by decide +kernel
theorem dX9_act_5 : decode cX9_act 5 = .ok (.putfield 251, 3) := by decide +kernel
theorem dX9_act_8 : decode cX9_act 8 = .ok (.aload_n 0, 1) := by decide +kernel
theorem dX9_act_9 : decode cX9_act 9 = .ok (.iload_n 1, 1) := by decide +kernel
theorem dX9_act_10 : decode cX9_act 10 = .ok (.invokevirtual 93, 3) := by decide +kernel
theorem dX9_act_13 : decode cX9_act 13 = .ok (.ifCond .eq 12, 3) := by decide +kernel
theorem dX9_act_16 : decode cX9_act 16 = .ok (.iload_n 2, 1) := by decide +kernel
theorem dX9_act_17 : decode cX9_act 17 = .ok (.iconst 0, 1) := by decide +kernel
theorem dX9_act_18 : decode cX9_act 18 = .ok (.iconst 2, 1) := by decide +kernel
theorem dX9_act_19 : decode cX9_act 19 = .ok (.invokestatic 73, 3) := by decide +kernel
theorem dX9_act_22 : decode cX9_act 22 = .ok (.ifCond .ne 5, 3) := by decide +kernel
theorem dX9_act_25 : decode cX9_act 25 = .ok (.iconst 0, 1) := by decide +kernel
theorem dX9_act_26 : decode cX9_act 26 = .ok (.ireturn, 1) := by decide +kernel
theorem dX9_act_27 : decode cX9_act 27 = .ok (.aload_n 0, 1) := by decide +kernel
theorem dX9_act_28 : decode cX9_act 28 = .ok (.getfield 61, 3) := by decide +kernel
theorem dX9_act_31 : decode cX9_act 31 = .ok (.iload_n 1, 1) := by decide +kernel
theorem dX9_act_32 : decode cX9_act 32 = .ok (.aload_n 0, 1) := by decide +kernel
theorem dX9_act_33 : decode cX9_act 33 = .ok (.getfield 12, 3) := by decide +kernel
theorem dX9_act_36 : decode cX9_act 36 = .ok (.getfield 97, 3) := by decide +kernel
theorem dX9_act_39 : decode cX9_act 39 = .ok (.iload_n 1, 1) := by decide +kernel
theorem dX9_act_40 : decode cX9_act 40 = .ok (.iaload, 1) := by decide +kernel
theorem dX9_act_41 : decode cX9_act 41 = .ok (.aload_n 0, 1) := by decide +kernel
theorem dX9_act_42 : decode cX9_act 42 = .ok (.getfield 12, 3) := by decide +kernel
theorem dX9_act_45 : decode cX9_act 45 = .ok (.getfield 101, 3) := by decide +kernel
theorem dX9_act_48 : decode cX9_act 48 = .ok (.iload_n 1, 1) := by decide +kernel
theorem dX9_act_49 : decode cX9_act 49 = .ok (.iaload, 1) := by decide +kernel
theorem dX9_act_50 : decode cX9_act 50 = .ok (.iload_n 2, 1) := by decide +kernel
theorem dX9_act_51 : decode cX9_act 51 = .ok (.iload_n 3, 1) := by decide +kernel
theorem dX9_act_52 : decode cX9_act 52 = .ok (.invokevirtual 254, 3) := by decide +kernel
theorem dX9_act_55 : decode cX9_act 55 = .ok (.ireturn, 1) := by decide +kernel
theorem dX9_trace_0 : decode cX9_trace 0 = .ok (.iload_n 1, 1) := by decide +kernel
theorem dX9_trace_1 : decode cX9_trace 1 = .ok (.iconst 0, 1) := by decide +kernel
theorem dX9_trace_2 : decode cX9_trace 2 = .ok (.aload_n 0, 1) := by decide +kernel
theorem dX9_trace_3 : decode cX9_trace 3 = .ok (.getfield 61, 3) := by decide +kernel
theorem dX9_trace_6 : decode cX9_trace 6 = .ok (.getfield 251, 3) := by decide +kernel
theorem dX9_trace_9 : decode cX9_trace 9 = .ok (.bipush 20, 2) := by decide +kernel
theorem dX9_trace_11 : decode cX9_trace 11 = .ok (.invokestatic 258, 3) := by decide +kernel
theorem dX9_trace_14 : decode cX9_trace 14 = .ok (.iconst 1, 1) := by decide +kernel
theorem dX9_trace_15 : decode cX9_trace 15 = .ok (.isub, 1) := by decide +kernel
theorem dX9_trace_16 : decode cX9_trace 16 = .ok (.invokestatic 73, 3) := by decide +kernel
theorem dX9_trace_19 : decode cX9_trace 19 = .ok (.ifCond .eq 15, 3) := by decide +kernel
theorem dX9_trace_22 : decode cX9_trace 22 = .ok (.aload_n 0, 1) := by decide +kernel
theorem dX9_trace_23 : decode cX9_trace 23 = .ok (.getfield 61, 3) := by decide +kernel
theorem dX9_trace_26 : decode cX9_trace 26 = .ok (.getfield 263, 3) := by decide +kernel
theorem dX9_trace_29 : decode cX9_trace 29 = .ok (.iload_n 1, 1) := by decide +kernel
theorem dX9_trace_30 : decode cX9_trace 30 = .ok (.iaload, 1) := by decide +kernel
theorem dX9_trace_31 : decode cX9_trace 31 = .ok (.goto 4, 3) := by decide +kernel
theorem dX9_trace_34 : decode cX9_trace 34 = .ok (.iconst (-1), 1) := by decide +kernel
theorem dX9_trace_35 : decode cX9_trace 35 = .ok (.ireturn, 1) := by decide +kernel
theorem dX9_taken_0 : decode cX9_taken 0 = .ok (.iload_n 2, 1) := by decide +kernel
theorem dX9_taken_1 : decode cX9_taken 1 = .ok (.iconst 0, 1) := by decide +kernel
theorem dX9_taken_2 : decode cX9_taken 2 = .ok (.bipush 6, 2) := by decide +kernel
theorem dX9_taken_4 : decode cX9_taken 4 = .ok (.invokestatic 73, 3) := by decide +kernel
theorem dX9_taken_7 : decode cX9_taken 7 = .ok (.ifCond .ne 6, 3) := by decide +kernel
theorem dX9_taken_10 : decode cX9_taken 10 = .ok (.bipush (-2), 2) := by decide +kernel
theorem dX9_taken_12 : decode cX9_taken 12 = .ok (.ireturn, 1) := by decide +kernel
theorem dX9_taken_13 : decode cX9_taken 13 = .ok (.aload_n 0, 1) := by decide +kernel
theorem dX9_taken_14 : decode cX9_taken 14 = .ok (.iload_n 1, 1) := by decide +kernel
theorem dX9_taken_15 : decode cX9_taken 15 = .ok (.invokevirtual 93, 3) := by decide +kernel
theorem dX9_taken_18 : decode cX9_taken 18 = .ok (.ifCond .ne 6, 3) := by decide +kernel
theorem dX9_taken_21 : decode cX9_taken 21 = .ok (.bipush (-11), 2) := by decide +kernel
theorem dX9_taken_23 : decode cX9_taken 23 = .ok (.ireturn, 1) := by decide +kernel
theorem dX9_taken_24 : decode cX9_taken 24 = .ok (.aload_n 0, 1) := by decide +kernel
theorem dX9_taken_25 : decode cX9_taken 25 = .ok (.getfield 12, 3) := by decide +kernel
theorem dX9_taken_28 : decode cX9_taken 28 = .ok (.getfield 97, 3) := by decide +kernel
theorem dX9_taken_31 : decode cX9_taken 31 = .ok (.iload_n 1, 1) := by decide +kernel
theorem dX9_taken_32 : decode cX9_taken 32 = .ok (.iaload, 1) := by decide +kernel
theorem dX9_taken_33 : decode cX9_taken 33 = .ok (.istore_n 3, 1) := by decide +kernel
theorem dX9_taken_34 : decode cX9_taken 34 = .ok (.iload_n 3, 1) := by decide +kernel
theorem dX9_taken_35 : decode cX9_taken 35 = .ok (.iload_n 2, 1) := by decide +kernel
theorem dX9_taken_36 : decode cX9_taken 36 = .ok (.invokestatic 266, 3) := by decide +kernel
theorem dX9_taken_39 : decode cX9_taken 39 = .ok (.ifCond .eq 7, 3) := by decide +kernel
theorem dX9_taken_42 : decode cX9_taken 42 = .ok (.iload_n 3, 1) := by decide +kernel
theorem dX9_taken_43 : decode cX9_taken 43 = .ok (.goto 5, 3) := by decide +kernel
theorem dX9_taken_46 : decode cX9_taken 46 = .ok (.bipush (-12), 2) := by decide +kernel
theorem dX9_taken_48 : decode cX9_taken 48 = .ok (.ireturn, 1) := by decide +kernel
theorem dX9_count_0 : decode cX9_count 0 = .ok (.iload_n 1, 1) := by decide +kernel
theorem dX9_count_1 : decode cX9_count 1 = .ok (.tableswitch 105 0 6 #[43, 51, 56, 67, 78, 89, 97], 43) := by decide +kernel
theorem dX9_count_44 : decode cX9_count 44 = .ok (.aload_n 0, 1) := by decide +kernel
theorem dX9_count_45 : decode cX9_count 45 = .ok (.getfield 12, 3) := by decide +kernel
theorem dX9_count_48 : decode cX9_count 48 = .ok (.getfield 86, 3) := by decide +kernel
theorem dX9_count_51 : decode cX9_count 51 = .ok (.ireturn, 1) := by decide +kernel
theorem dX9_count_52 : decode cX9_count 52 = .ok (.aload_n 0, 1) := by decide +kernel
theorem dX9_count_53 : decode cX9_count 53 = .ok (.getfield 38, 3) := by decide +kernel
theorem dX9_count_56 : decode cX9_count 56 = .ok (.ireturn, 1) := by decide +kernel
theorem dX9_count_57 : decode cX9_count 57 = .ok (.aload_n 0, 1) := by decide +kernel
theorem dX9_count_58 : decode cX9_count 58 = .ok (.getfield 12, 3) := by decide +kernel
theorem dX9_count_61 : decode cX9_count 61 = .ok (.getfield 187, 3) := by decide +kernel
theorem dX9_count_64 : decode cX9_count 64 = .ok (.getfield 229, 3) := by decide +kernel
theorem dX9_count_67 : decode cX9_count 67 = .ok (.ireturn, 1) := by decide +kernel
theorem dX9_count_68 : decode cX9_count 68 = .ok (.aload_n 0, 1) := by decide +kernel
theorem dX9_count_69 : decode cX9_count 69 = .ok (.getfield 12, 3) := by decide +kernel
theorem dX9_count_72 : decode cX9_count 72 = .ok (.getfield 220, 3) := by decide +kernel
theorem dX9_count_75 : decode cX9_count 75 = .ok (.getfield 229, 3) := by decide +kernel
theorem dX9_count_78 : decode cX9_count 78 = .ok (.ireturn, 1) := by decide +kernel
theorem dX9_count_79 : decode cX9_count 79 = .ok (.aload_n 0, 1) := by decide +kernel
theorem dX9_count_80 : decode cX9_count 80 = .ok (.getfield 12, 3) := by decide +kernel
theorem dX9_count_83 : decode cX9_count 83 = .ok (.getfield 226, 3) := by decide +kernel
theorem dX9_count_86 : decode cX9_count 86 = .ok (.getfield 229, 3) := by decide +kernel
theorem dX9_count_89 : decode cX9_count 89 = .ok (.ireturn, 1) := by decide +kernel
theorem dX9_count_90 : decode cX9_count 90 = .ok (.aload_n 0, 1) := by decide +kernel
theorem dX9_count_91 : decode cX9_count 91 = .ok (.getfield 28, 3) := by decide +kernel
theorem dX9_count_94 : decode cX9_count 94 = .ok (.getfield 136, 3) := by decide +kernel
theorem dX9_count_97 : decode cX9_count 97 = .ok (.ireturn, 1) := by decide +kernel
theorem dX9_count_98 : decode cX9_count 98 = .ok (.aload_n 0, 1) := by decide +kernel
theorem dX9_count_99 : decode cX9_count 99 = .ok (.getfield 61, 3) := by decide +kernel
theorem dX9_count_102 : decode cX9_count 102 = .ok (.getfield 251, 3) := by decide +kernel
theorem dX9_count_105 : decode cX9_count 105 = .ok (.ireturn, 1) := by decide +kernel
theorem dX9_count_106 : decode cX9_count 106 = .ok (.bipush (-2), 2) := by decide +kernel
theorem dX9_count_108 : decode cX9_count 108 = .ok (.ireturn, 1) := by decide +kernel
theorem dX9_tape_0 : decode cX9_tape 0 = .ok (.iload_n 1, 1) := by decide +kernel
theorem dX9_tape_1 : decode cX9_tape 1 = .ok (.invokestatic 235, 3) := by decide +kernel
theorem dX9_tape_4 : decode cX9_tape 4 = .ok (.ifCond .ne 5, 3) := by decide +kernel
theorem dX9_tape_7 : decode cX9_tape 7 = .ok (.iconst (-1), 1) := by decide +kernel
theorem dX9_tape_8 : decode cX9_tape 8 = .ok (.ireturn, 1) := by decide +kernel
theorem dX9_tape_9 : decode cX9_tape 9 = .ok (.iload_n 2, 1) := by decide +kernel
theorem dX9_tape_10 : decode cX9_tape 10 = .ok (.iconst (-1), 1) := by decide +kernel
theorem dX9_tape_11 : decode cX9_tape 11 = .ok (.if_icmp .ne 16, 3) := by decide +kernel
theorem dX9_tape_14 : decode cX9_tape 14 = .ok (.aload_n 0, 1) := by decide +kernel
theorem dX9_tape_15 : decode cX9_tape 15 = .ok (.getfield 67, 3) := by decide +kernel
theorem dX9_tape_18 : decode cX9_tape 18 = .ok (.iload_n 1, 1) := by decide +kernel
theorem dX9_tape_19 : decode cX9_tape 19 = .ok (.aaload, 1) := by decide +kernel
theorem dX9_tape_20 : decode cX9_tape 20 = .ok (.iload_n 2, 1) := by decide +kernel
theorem dX9_tape_21 : decode cX9_tape 21 = .ok (.iconst 0, 1) := by decide +kernel
theorem dX9_tape_22 : decode cX9_tape 22 = .ok (.invokevirtual 270, 3) := by decide +kernel
theorem dX9_tape_25 : decode cX9_tape 25 = .ok (.iconst 1, 1) := by decide +kernel
theorem dX9_tape_26 : decode cX9_tape 26 = .ok (.ireturn, 1) := by decide +kernel
theorem dX9_tape_27 : decode cX9_tape 27 = .ok (.iload_n 2, 1) := by decide +kernel
theorem dX9_tape_28 : decode cX9_tape 28 = .ok (.iconst 0, 1) := by decide +kernel
theorem dX9_tape_29 : decode cX9_tape 29 = .ok (.iconst 4, 1) := by decide +kernel
theorem dX9_tape_30 : decode cX9_tape 30 = .ok (.invokestatic 73, 3) := by decide +kernel
theorem dX9_tape_33 : decode cX9_tape 33 = .ok (.ifCond .eq 9, 3) := by decide +kernel
theorem dX9_tape_36 : decode cX9_tape 36 = .ok (.iload_n 3, 1) := by decide +kernel
theorem dX9_tape_37 : decode cX9_tape 37 = .ok (.bipush 60, 2) := by decide +kernel
theorem dX9_tape_39 : decode cX9_tape 39 = .ok (.if_icmp .le 6, 3) := by decide +kernel
theorem dX9_tape_42 : decode cX9_tape 42 = .ok (.bipush (-2), 2) := by decide +kernel
theorem dX9_tape_44 : decode cX9_tape 44 = .ok (.ireturn, 1) := by decide +kernel
theorem dX9_tape_45 : decode cX9_tape 45 = .ok (.iload_n 3, 1) := by decide +kernel
theorem dX9_tape_46 : decode cX9_tape 46 = .ok (.ifCond .ge 6, 3) := by decide +kernel
theorem dX9_tape_49 : decode cX9_tape 49 = .ok (.bipush (-14), 2) := by decide +kernel
theorem dX9_tape_51 : decode cX9_tape 51 = .ok (.ireturn, 1) := by decide +kernel
theorem dX9_tape_52 : decode cX9_tape 52 = .ok (.aload_n 0, 1) := by decide +kernel
theorem dX9_tape_53 : decode cX9_tape 53 = .ok (.getfield 67, 3) := by decide +kernel
theorem dX9_tape_56 : decode cX9_tape 56 = .ok (.iload_n 1, 1) := by decide +kernel
theorem dX9_tape_57 : decode cX9_tape 57 = .ok (.aaload, 1) := by decide +kernel
theorem dX9_tape_58 : decode cX9_tape 58 = .ok (.iload_n 2, 1) := by decide +kernel
theorem dX9_tape_59 : decode cX9_tape 59 = .ok (.iload_n 3, 1) := by decide +kernel
theorem dX9_tape_60 : decode cX9_tape 60 = .ok (.invokevirtual 270, 3) := by decide +kernel
theorem dX9_tape_63 : decode cX9_tape 63 = .ok (.iconst 1, 1) := by decide +kernel
theorem dX9_tape_64 : decode cX9_tape 64 = .ok (.ireturn, 1) := by decide +kernel
theorem dX9_item_0 : decode cX9_item 0 = .ok (.iload_n 1, 1) := by decide +kernel
theorem dX9_item_1 : decode cX9_item 1 = .ok (.invokestatic 235, 3) := by decide +kernel
theorem dX9_item_4 : decode cX9_item 4 = .ok (.ifCond .ne 5, 3) := by decide +kernel
theorem dX9_item_7 : decode cX9_item 7 = .ok (.iconst (-1), 1) := by decide +kernel
theorem dX9_item_8 : decode cX9_item 8 = .ok (.ireturn, 1) := by decide +kernel
theorem dX9_item_9 : decode cX9_item 9 = .ok (.aload_n 0, 1) := by decide +kernel
theorem dX9_item_10 : decode cX9_item 10 = .ok (.getfield 67, 3) := by decide +kernel
theorem dX9_item_13 : decode cX9_item 13 = .ok (.iload_n 1, 1) := by decide +kernel
theorem dX9_item_14 : decode cX9_item 14 = .ok (.aaload, 1) := by decide +kernel
theorem dX9_item_15 : decode cX9_item 15 = .ok (.getfield 238, 3) := by decide +kernel
theorem dX9_item_18 : decode cX9_item 18 = .ok (.iconst (-1), 1) := by decide +kernel
theorem dX9_item_19 : decode cX9_item 19 = .ok (.if_icmp .ne 6, 3) := by decide +kernel
theorem dX9_item_22 : decode cX9_item 22 = .ok (.bipush (-11), 2) := by decide +kernel
theorem dX9_item_24 : decode cX9_item 24 = .ok (.ireturn, 1) := by decide +kernel
theorem dX9_item_25 : decode cX9_item 25 = .ok (.aload_n 0, 1) := by decide +kernel
theorem dX9_item_26 : decode cX9_item 26 = .ok (.getfield 67, 3) := by decide +kernel
theorem dX9_item_29 : decode cX9_item 29 = .ok (.iload_n 1, 1) := by decide +kernel
theorem dX9_item_30 : decode cX9_item 30 = .ok (.aaload, 1) := by decide +kernel
theorem dX9_item_31 : decode cX9_item 31 = .ok (.iload_n 2, 1) := by decide +kernel
theorem dX9_item_32 : decode cX9_item 32 = .ok (.invokevirtual 241, 3) := by decide +kernel
theorem dX9_item_35 : decode cX9_item 35 = .ok (.ifCond .ne 6, 3) := by decide +kernel
theorem dX9_item_38 : decode cX9_item 38 = .ok (.bipush (-13), 2) := by decide +kernel
theorem dX9_item_40 : decode cX9_item 40 = .ok (.ireturn, 1) := by decide +kernel
theorem dX9_item_41 : decode cX9_item 41 = .ok (.aload_n 0, 1) := by decide +kernel
theorem dX9_item_42 : decode cX9_item 42 = .ok (.getfield 67, 3) := by decide +kernel
theorem dX9_item_45 : decode cX9_item 45 = .ok (.iload_n 1, 1) := by decide +kernel
theorem dX9_item_46 : decode cX9_item 46 = .ok (.aaload, 1) := by decide +kernel
theorem dX9_item_47 : decode cX9_item 47 = .ok (.getfield 244, 3) := by decide +kernel
theorem dX9_item_50 : decode cX9_item 50 = .ok (.iload_n 2, 1) := by decide +kernel
theorem dX9_item_51 : decode cX9_item 51 = .ok (.aload_n 0, 1) := by decide +kernel
theorem dX9_item_52 : decode cX9_item 52 = .ok (.getfield 67, 3) := by decide +kernel
theorem dX9_item_55 : decode cX9_item 55 = .ok (.iload_n 1, 1) := by decide +kernel
theorem dX9_item_56 : decode cX9_item 56 = .ok (.aaload, 1) := by decide +kernel
theorem dX9_item_57 : decode cX9_item 57 = .ok (.lload_n 3, 1) := by decide +kernel
theorem dX9_item_58 : decode cX9_item 58 = .ok (.invokevirtual 274, 3) := by decide +kernel
theorem dX9_item_61 : decode cX9_item 61 = .ok (.lastore, 1) := by decide +kernel
theorem dX9_item_62 : decode cX9_item 62 = .ok (.iconst 1, 1) := by decide +kernel
theorem dX9_item_63 : decode cX9_item 63 = .ok (.ireturn, 1) := by decide +kernel
theorem dX9_read_0 : decode cX9_read 0 = .ok (.iload_n 1, 1) := by decide +kernel
theorem dX9_read_1 : decode cX9_read 1 = .ok (.invokestatic 235, 3) := by decide +kernel
theorem dX9_read_4 : decode cX9_read 4 = .ok (.ifCond .eq 16, 3) := by decide +kernel
theorem dX9_read_7 : decode cX9_read 7 = .ok (.aload_n 0, 1) := by decide +kernel
theorem dX9_read_8 : decode cX9_read 8 = .ok (.getfield 67, 3) := by decide +kernel
theorem dX9_read_11 : decode cX9_read 11 = .ok (.iload_n 1, 1) := by decide +kernel
theorem dX9_read_12 : decode cX9_read 12 = .ok (.aaload, 1) := by decide +kernel
theorem dX9_read_13 : decode cX9_read 13 = .ok (.iload_n 2, 1) := by decide +kernel
theorem dX9_read_14 : decode cX9_read 14 = .ok (.invokevirtual 241, 3) := by decide +kernel
theorem dX9_read_17 : decode cX9_read 17 = .ok (.ifCond .ne 7, 3) := by decide +kernel
theorem dX9_read_20 : decode cX9_read 20 = .ok (.ldc2_w 211, 3) := by decide +kernel
theorem dX9_read_23 : decode cX9_read 23 = .ok (.lreturn, 1) := by decide +kernel
theorem dX9_read_24 : decode cX9_read 24 = .ok (.aload_n 0, 1) := by decide +kernel
theorem dX9_read_25 : decode cX9_read 25 = .ok (.getfield 67, 3) := by decide +kernel
theorem dX9_read_28 : decode cX9_read 28 = .ok (.iload_n 1, 1) := by decide +kernel
theorem dX9_read_29 : decode cX9_read 29 = .ok (.aaload, 1) := by decide +kernel
theorem dX9_read_30 : decode cX9_read 30 = .ok (.getfield 244, 3) := by decide +kernel
theorem dX9_read_33 : decode cX9_read 33 = .ok (.iload_n 2, 1) := by decide +kernel
theorem dX9_read_34 : decode cX9_read 34 = .ok (.laload, 1) := by decide +kernel
theorem dX9_read_35 : decode cX9_read 35 = .ok (.lreturn, 1) := by decide +kernel
theorem dX9_shift_0 : decode cX9_shift 0 = .ok (.iload_n 1, 1) := by decide +kernel
theorem dX9_shift_1 : decode cX9_shift 1 = .ok (.invokestatic 235, 3) := by decide +kernel
theorem dX9_shift_4 : decode cX9_shift 4 = .ok (.ifCond .eq 10, 3) := by decide +kernel
theorem dX9_shift_7 : decode cX9_shift 7 = .ok (.iload_n 3, 1) := by decide +kernel
theorem dX9_shift_8 : decode cX9_shift 8 = .ok (.invokestatic 235, 3) := by decide +kernel
theorem dX9_shift_11 : decode cX9_shift 11 = .ok (.ifCond .ne 5, 3) := by decide +kernel
theorem dX9_shift_14 : decode cX9_shift 14 = .ok (.iconst (-1), 1) := by decide +kernel
theorem dX9_shift_15 : decode cX9_shift 15 = .ok (.ireturn, 1) := by decide +kernel
theorem dX9_shift_16 : decode cX9_shift 16 = .ok (.aload_n 0, 1) := by decide +kernel
theorem dX9_shift_17 : decode cX9_shift 17 = .ok (.getfield 67, 3) := by decide +kernel
theorem dX9_shift_20 : decode cX9_shift 20 = .ok (.iload_n 1, 1) := by decide +kernel
theorem dX9_shift_21 : decode cX9_shift 21 = .ok (.aaload, 1) := by decide +kernel
theorem dX9_shift_22 : decode cX9_shift 22 = .ok (.astore 6, 2) := by decide +kernel
theorem dX9_shift_24 : decode cX9_shift 24 = .ok (.aload_n 0, 1) := by decide +kernel
theorem dX9_shift_25 : decode cX9_shift 25 = .ok (.getfield 67, 3) := by decide +kernel
theorem dX9_shift_28 : decode cX9_shift 28 = .ok (.iload_n 3, 1) := by decide +kernel
theorem dX9_shift_29 : decode cX9_shift 29 = .ok (.aaload, 1) := by decide +kernel
theorem dX9_shift_30 : decode cX9_shift 30 = .ok (.astore 7, 2) := by decide +kernel
theorem dX9_shift_32 : decode cX9_shift 32 = .ok (.aload 6, 2) := by decide +kernel
theorem dX9_shift_34 : decode cX9_shift 34 = .ok (.getfield 238, 3) := by decide +kernel
theorem dX9_shift_37 : decode cX9_shift 37 = .ok (.iconst (-1), 1) := by decide +kernel
theorem dX9_shift_38 : decode cX9_shift 38 = .ok (.if_icmp .eq 12, 3) := by decide +kernel
theorem dX9_shift_41 : decode cX9_shift 41 = .ok (.aload 7, 2) := by decide +kernel
theorem dX9_shift_43 : decode cX9_shift 43 = .ok (.getfield 238, 3) := by decide +kernel
theorem dX9_shift_46 : decode cX9_shift 46 = .ok (.iconst (-1), 1) := by decide +kernel
theorem dX9_shift_47 : decode cX9_shift 47 = .ok (.if_icmp .ne 6, 3) := by decide +kernel
theorem dX9_shift_50 : decode cX9_shift 50 = .ok (.bipush (-11), 2) := by decide +kernel
theorem dX9_shift_52 : decode cX9_shift 52 = .ok (.ireturn, 1) := by decide +kernel
theorem dX9_shift_53 : decode cX9_shift 53 = .ok (.aload 6, 2) := by decide +kernel
theorem dX9_shift_55 : decode cX9_shift 55 = .ok (.getfield 238, 3) := by decide +kernel
theorem dX9_shift_58 : decode cX9_shift 58 = .ok (.aload 7, 2) := by decide +kernel
theorem dX9_shift_60 : decode cX9_shift 60 = .ok (.getfield 238, 3) := by decide +kernel
theorem dX9_shift_63 : decode cX9_shift 63 = .ok (.if_icmp .eq 6, 3) := by decide +kernel
theorem dX9_shift_66 : decode cX9_shift 66 = .ok (.bipush (-12), 2) := by decide +kernel
theorem dX9_shift_68 : decode cX9_shift 68 = .ok (.ireturn, 1) := by decide +kernel
theorem dX9_shift_69 : decode cX9_shift 69 = .ok (.aload 6, 2) := by decide +kernel
theorem dX9_shift_71 : decode cX9_shift 71 = .ok (.iload_n 2, 1) := by decide +kernel
theorem dX9_shift_72 : decode cX9_shift 72 = .ok (.iload 5, 2) := by decide +kernel
theorem dX9_shift_74 : decode cX9_shift 74 = .ok (.invokevirtual 278, 3) := by decide +kernel
theorem dX9_shift_77 : decode cX9_shift 77 = .ok (.ifCond .eq 15, 3) := by decide +kernel
theorem dX9_shift_80 : decode cX9_shift 80 = .ok (.aload 7, 2) := by decide +kernel
theorem dX9_shift_82 : decode cX9_shift 82 = .ok (.iload 4, 2) := by decide +kernel
theorem dX9_shift_84 : decode cX9_shift 84 = .ok (.iload 5, 2) := by decide +kernel
theorem dX9_shift_86 : decode cX9_shift 86 = .ok (.invokevirtual 278, 3) := by decide +kernel
theorem dX9_shift_89 : decode cX9_shift 89 = .ok (.ifCond .ne 6, 3) := by decide +kernel
theorem dX9_shift_92 : decode cX9_shift 92 = .ok (.bipush (-13), 2) := by decide +kernel
theorem dX9_shift_94 : decode cX9_shift 94 = .ok (.ireturn, 1) := by decide +kernel
theorem dX9_shift_95 : decode cX9_shift 95 = .ok (.aload 6, 2) := by decide +kernel
theorem dX9_shift_97 : decode cX9_shift 97 = .ok (.getfield 244, 3) := by decide +kernel
theorem dX9_shift_100 : decode cX9_shift 100 = .ok (.iload_n 2, 1) := by decide +kernel
theorem dX9_shift_101 : decode cX9_shift 101 = .ok (.aload 7, 2) := by decide +kernel
theorem dX9_shift_103 : decode cX9_shift 103 = .ok (.getfield 244, 3) := by decide +kernel
theorem dX9_shift_106 : decode cX9_shift 106 = .ok (.iload 4, 2) := by decide +kernel
theorem dX9_shift_108 : decode cX9_shift 108 = .ok (.iload 5, 2) := by decide +kernel
theorem dX9_shift_110 : decode cX9_shift 110 = .ok (.invokestatic 281, 3) := by decide +kernel
theorem dX9_shift_113 : decode cX9_shift 113 = .ok (.iload 5, 2) := by decide +kernel
theorem dX9_shift_115 : decode cX9_shift 115 = .ok (.ireturn, 1) := by decide +kernel
theorem dX9_isClock_0 : decode cX9_isClock 0 = .ok (.iload_n 1, 1) := by decide +kernel
theorem dX9_isClock_1 : decode cX9_isClock 1 = .ok (.ifCond .lt 18, 3) := by decide +kernel
theorem dX9_isClock_4 : decode cX9_isClock 4 = .ok (.iload_n 1, 1) := by decide +kernel
theorem dX9_isClock_5 : decode cX9_isClock 5 = .ok (.aload_n 0, 1) := by decide +kernel
theorem dX9_isClock_6 : decode cX9_isClock 6 = .ok (.getfield 12, 3) := by decide +kernel
theorem dX9_isClock_9 : decode cX9_isClock 9 = .ok (.getfield 86, 3) := by decide +kernel
theorem dX9_isClock_12 : decode cX9_isClock 12 = .ok (.if_icmp .ge 7, 3) := by decide +kernel
theorem dX9_isClock_15 : decode cX9_isClock 15 = .ok (.iconst 1, 1) := by decide +kernel
theorem dX9_isClock_16 : decode cX9_isClock 16 = .ok (.goto 4, 3) := by decide +kernel
theorem dX9_isClock_19 : decode cX9_isClock 19 = .ok (.iconst 0, 1) := by decide +kernel
theorem dX9_isClock_20 : decode cX9_isClock 20 = .ok (.ireturn, 1) := by decide +kernel
theorem dX9_isTape_0 : decode cX9_isTape 0 = .ok (.iload_n 0, 1) := by decide +kernel
theorem dX9_isTape_1 : decode cX9_isTape 1 = .ok (.ifCond .lt 13, 3) := by decide +kernel
theorem dX9_isTape_4 : decode cX9_isTape 4 = .ok (.iload_n 0, 1) := by decide +kernel
theorem dX9_isTape_5 : decode cX9_isTape 5 = .ok (.bipush 6, 2) := by decide +kernel
theorem dX9_isTape_7 : decode cX9_isTape 7 = .ok (.if_icmp .ge 7, 3) := by decide +kernel
theorem dX9_isTape_10 : decode cX9_isTape 10 = .ok (.iconst 1, 1) := by decide +kernel
theorem dX9_isTape_11 : decode cX9_isTape 11 = .ok (.goto 4, 3) := by decide +kernel
theorem dX9_isTape_14 : decode cX9_isTape 14 = .ok (.iconst 0, 1) := by decide +kernel
theorem dX9_isTape_15 : decode cX9_isTape 15 = .ok (.ireturn, 1) := by decide +kernel
theorem dX9_within_0 : decode cX9_within 0 = .ok (.iload_n 0, 1) := by decide +kernel
theorem dX9_within_1 : decode cX9_within 1 = .ok (.iload_n 1, 1) := by decide +kernel
theorem dX9_within_2 : decode cX9_within 2 = .ok (.if_icmp .lt 12, 3) := by decide +kernel
theorem dX9_within_5 : decode cX9_within 5 = .ok (.iload_n 0, 1) := by decide +kernel
theorem dX9_within_6 : decode cX9_within 6 = .ok (.iload_n 2, 1) := by decide +kernel
theorem dX9_within_7 : decode cX9_within 7 = .ok (.if_icmp .gt 7, 3) := by decide +kernel
theorem dX9_within_10 : decode cX9_within 10 = .ok (.iconst 1, 1) := by decide +kernel
theorem dX9_within_11 : decode cX9_within 11 = .ok (.goto 4, 3) := by decide +kernel
theorem dX9_within_14 : decode cX9_within 14 = .ok (.iconst 0, 1) := by decide +kernel
theorem dX9_within_15 : decode cX9_within 15 = .ok (.ireturn, 1) := by decide +kernel
theorem dX9_isUnder_0 : decode cX9_isUnder 0 = .ok (.iload_n 0, 1) := by decide +kernel
theorem dX9_isUnder_1 : decode cX9_isUnder 1 = .ok (.istore_n 2, 1) := by decide +kernel
theorem dX9_isUnder_2 : decode cX9_isUnder 2 = .ok (.iconst 0, 1) := by decide +kernel
theorem dX9_isUnder_3 : decode cX9_isUnder 3 = .ok (.istore_n 3, 1) := by decide +kernel
theorem dX9_isUnder_4 : decode cX9_isUnder 4 = .ok (.iload_n 3, 1) := by decide +kernel
theorem dX9_isUnder_5 : decode cX9_isUnder 5 = .ok (.bipush 7, 2) := by decide +kernel
theorem dX9_isUnder_7 : decode cX9_isUnder 7 = .ok (.if_icmp .ge 26, 3) := by decide +kernel
theorem dX9_isUnder_10 : decode cX9_isUnder 10 = .ok (.iload_n 2, 1) := by decide +kernel
theorem dX9_isUnder_11 : decode cX9_isUnder 11 = .ok (.ifCond .lt 22, 3) := by decide +kernel
theorem dX9_isUnder_14 : decode cX9_isUnder 14 = .ok (.iload_n 2, 1) := by decide +kernel
theorem dX9_isUnder_15 : decode cX9_isUnder 15 = .ok (.iload_n 1, 1) := by decide +kernel
theorem dX9_isUnder_16 : decode cX9_isUnder 16 = .ok (.if_icmp .ne 5, 3) := by decide +kernel
theorem dX9_isUnder_19 : decode cX9_isUnder 19 = .ok (.iconst 1, 1) := by decide +kernel
theorem dX9_isUnder_20 : decode cX9_isUnder 20 = .ok (.ireturn, 1) := by decide +kernel
theorem dX9_isUnder_21 : decode cX9_isUnder 21 = .ok (.getstatic 287, 3) := by decide +kernel
theorem dX9_isUnder_24 : decode cX9_isUnder 24 = .ok (.iload_n 2, 1) := by decide +kernel
theorem dX9_isUnder_25 : decode cX9_isUnder 25 = .ok (.iaload, 1) := by decide +kernel
theorem dX9_isUnder_26 : decode cX9_isUnder 26 = .ok (.istore_n 2, 1) := by decide +kernel
theorem dX9_isUnder_27 : decode cX9_isUnder 27 = .ok (.iinc 3 1, 3) := by decide +kernel
theorem dX9_isUnder_30 : decode cX9_isUnder 30 = .ok (.goto (-26), 3) := by decide +kernel
theorem dX9_isUnder_33 : decode cX9_isUnder 33 = .ok (.iconst 0, 1) := by decide +kernel
theorem dX9_isUnder_34 : decode cX9_isUnder 34 = .ok (.ireturn, 1) := by decide +kernel
theorem dX9_lowest_0 : decode cX9_lowest 0 = .ok (.iload_n 0, 1) := by decide +kernel
theorem dX9_lowest_1 : decode cX9_lowest 1 = .ok (.iload_n 1, 1) := by decide +kernel
theorem dX9_lowest_2 : decode cX9_lowest 2 = .ok (.invokestatic 290, 3) := by decide +kernel
theorem dX9_lowest_5 : decode cX9_lowest 5 = .ok (.istore_n 3, 1) := by decide +kernel
theorem dX9_lowest_6 : decode cX9_lowest 6 = .ok (.iload_n 1, 1) := by decide +kernel
theorem dX9_lowest_7 : decode cX9_lowest 7 = .ok (.ifCond .eq 7, 3) := by decide +kernel
theorem dX9_lowest_10 : decode cX9_lowest 10 = .ok (.iload_n 3, 1) := by decide +kernel
theorem dX9_lowest_11 : decode cX9_lowest 11 = .ok (.ifCond .ne 7, 3) := by decide +kernel
theorem dX9_lowest_14 : decode cX9_lowest 14 = .ok (.ldc2_w 211, 3) := by decide +kernel
theorem dX9_lowest_17 : decode cX9_lowest 17 = .ok (.lreturn, 1) := by decide +kernel
theorem dX9_lowest_18 : decode cX9_lowest 18 = .ok (.iload_n 2, 1) := by decide +kernel
theorem dX9_lowest_19 : decode cX9_lowest 19 = .ok (.lookupswitch 35 #[(0, 25), (1, 30)], 25) := by decide +kernel
theorem dX9_lowest_44 : decode cX9_lowest 44 = .ok (.iload_n 0, 1) := by decide +kernel
theorem dX9_lowest_45 : decode cX9_lowest 45 = .ok (.iload_n 3, 1) := by decide +kernel
theorem dX9_lowest_46 : decode cX9_lowest 46 = .ok (.idiv, 1) := by decide +kernel
theorem dX9_lowest_47 : decode cX9_lowest 47 = .ok (.i2l, 1) := by decide +kernel
theorem dX9_lowest_48 : decode cX9_lowest 48 = .ok (.lreturn, 1) := by decide +kernel
theorem dX9_lowest_49 : decode cX9_lowest 49 = .ok (.iload_n 1, 1) := by decide +kernel
theorem dX9_lowest_50 : decode cX9_lowest 50 = .ok (.iload_n 3, 1) := by decide +kernel
theorem dX9_lowest_51 : decode cX9_lowest 51 = .ok (.idiv, 1) := by decide +kernel
theorem dX9_lowest_52 : decode cX9_lowest 52 = .ok (.i2l, 1) := by decide +kernel
theorem dX9_lowest_53 : decode cX9_lowest 53 = .ok (.lreturn, 1) := by decide +kernel
theorem dX9_lowest_54 : decode cX9_lowest 54 = .ok (.ldc2_w 211, 3) := by decide +kernel
theorem dX9_lowest_57 : decode cX9_lowest 57 = .ok (.lreturn, 1) := by decide +kernel
theorem dX9_commonDivisor_0 : decode cX9_commonDivisor 0 = .ok (.iload_n 0, 1) := by decide +kernel
theorem dX9_commonDivisor_1 : decode cX9_commonDivisor 1 = .ok (.istore_n 2, 1) := by decide +kernel
theorem dX9_commonDivisor_2 : decode cX9_commonDivisor 2 = .ok (.iload_n 1, 1) := by decide +kernel
theorem dX9_commonDivisor_3 : decode cX9_commonDivisor 3 = .ok (.istore_n 3, 1) := by decide +kernel
theorem dX9_commonDivisor_4 : decode cX9_commonDivisor 4 = .ok (.iconst 0, 1) := by decide +kernel
theorem dX9_commonDivisor_5 : decode cX9_commonDivisor 5 = .ok (.istore 4, 2) := by decide +kernel
theorem dX9_commonDivisor_7 : decode cX9_commonDivisor 7 = .ok (.iload 4, 2) := by decide +kernel
theorem dX9_commonDivisor_9 : decode cX9_commonDivisor 9 = .ok (.sipush 1000, 3) := by decide +kernel
theorem dX9_commonDivisor_12 : decode cX9_commonDivisor 12 = .ok (.if_icmp .ge 23, 3) := by decide +kernel
theorem dX9_commonDivisor_15 : decode cX9_commonDivisor 15 = .ok (.iload_n 3, 1) := by decide +kernel
theorem dX9_commonDivisor_16 : decode cX9_commonDivisor 16 = .ok (.ifCond .eq 19, 3) := by decide +kernel
theorem dX9_commonDivisor_19 : decode cX9_commonDivisor 19 = .ok (.iload_n 2, 1) := by decide +kernel
theorem dX9_commonDivisor_20 : decode cX9_commonDivisor 20 = .ok (.iload_n 3, 1) := by decide +kernel
theorem dX9_commonDivisor_21 : decode cX9_commonDivisor 21 = .ok (.irem, 1) := by decide +kernel
theorem dX9_commonDivisor_22 : decode cX9_commonDivisor 22 = .ok (.istore 5, 2) := by decide +kernel
theorem dX9_commonDivisor_24 : decode cX9_commonDivisor 24 = .ok (.iload_n 3, 1) := by decide +kernel
theorem dX9_commonDivisor_25 : decode cX9_commonDivisor 25 = .ok (.istore_n 2, 1) := by decide +kernel
theorem dX9_commonDivisor_26 : decode cX9_commonDivisor 26 = .ok (.iload 5, 2) := by decide +kernel
theorem dX9_commonDivisor_28 : decode cX9_commonDivisor 28 = .ok (.istore_n 3, 1) := by decide +kernel
theorem dX9_commonDivisor_29 : decode cX9_commonDivisor 29 = .ok (.iinc 4 1, 3) := by decide +kernel
theorem dX9_commonDivisor_32 : decode cX9_commonDivisor 32 = .ok (.goto (-25), 3) := by decide +kernel
theorem dX9_commonDivisor_35 : decode cX9_commonDivisor 35 = .ok (.iload_n 2, 1) := by decide +kernel
theorem dX9_commonDivisor_36 : decode cX9_commonDivisor 36 = .ok (.ireturn, 1) := by decide +kernel
theorem dX10_init_0 : decode cX10_init 0 = .ok (.aload_n 0, 1) := by decide +kernel
theorem dX10_init_1 : decode cX10_init 1 = .ok (.invokespecial 1, 3) := by decide +kernel
theorem dX10_init_4 : decode cX10_init 4 = .ok (.aload_n 0, 1) := by decide +kernel
theorem dX10_init_5 : decode cX10_init 5 = .ok (.iconst 0, 1) := by decide +kernel
theorem dX10_init_6 : decode cX10_init 6 = .ok (.putfield 7, 3) := by decide +kernel
theorem dX10_init_9 : decode cX10_init 9 = .ok (.aload_n 0, 1) := by decide +kernel
theorem dX10_init_10 : decode cX10_init 10 = .ok (.iconst 0, 1) := by decide +kernel
theorem dX10_init_11 : decode cX10_init 11 = .ok (.putfield 13, 3) := by decide +kernel
theorem dX10_init_14 : decode cX10_init 14 = .ok (.aload_n 0, 1) := by decide +kernel
theorem dX10_init_15 : decode cX10_init 15 = .ok (.bipush 100, 2) := by decide +kernel
theorem dX10_init_17 : decode cX10_init 17 = .ok (.putfield 16, 3) := by decide +kernel
theorem dX10_init_20 : decode cX10_init 20 = .ok (.aload_n 0, 1) := by decide +kernel
theorem dX10_init_21 : decode cX10_init 21 = .ok (.bipush 6, 2) := by decide +kernel
theorem dX10_init_23 : decode cX10_init 23 = .ok (.newarray .int, 2) := by decide +kernel
theorem dX10_init_25 : decode cX10_init 25 = .ok (.putfield 19, 3) := by decide +kernel
theorem dX10_init_28 : decode cX10_init 28 = .ok (.aload_n 0, 1) := by decide +kernel
theorem dX10_init_29 : decode cX10_init 29 = .ok (.bipush 6, 2) := by decide +kernel
theorem dX10_init_31 : decode cX10_init 31 = .ok (.newarray .int, 2) := by decide +kernel
theorem dX10_init_33 : decode cX10_init 33 = .ok (.putfield 23, 3) := by decide +kernel
theorem dX10_init_36 : decode cX10_init 36 = .ok (.aload_n 0, 1) := by decide +kernel
theorem dX10_init_37 : decode cX10_init 37 = .ok (.bipush 6, 2) := by decide +kernel
theorem dX10_init_39 : decode cX10_init 39 = .ok (.newarray .int, 2) := by decide +kernel
theorem dX10_init_41 : decode cX10_init 41 = .ok (.putfield 26, 3) := by decide +kernel
theorem dX10_init_44 : decode cX10_init 44 = .ok (.aload_n 0, 1) := by decide +kernel
theorem dX10_init_45 : decode cX10_init 45 = .ok (.bipush 24, 2) := by decide +kernel
theorem dX10_init_47 : decode cX10_init 47 = .ok (.newarray .int, 2) := by decide +kernel
theorem dX10_init_49 : decode cX10_init 49 = .ok (.putfield 29, 3) := by decide +kernel
theorem dX10_init_52 : decode cX10_init 52 = .ok (.aload_n 0, 1) := by decide +kernel
theorem dX10_init_53 : decode cX10_init 53 = .ok (.iconst 0, 1) := by decide +kernel
theorem dX10_init_54 : decode cX10_init 54 = .ok (.putfield 32, 3) := by decide +kernel
theorem dX10_init_57 : decode cX10_init 57 = .ok (.aload_n 0, 1) := by decide +kernel
theorem dX10_init_58 : decode cX10_init 58 = .ok (.iconst (-1), 1) := by decide +kernel
theorem dX10_init_59 : decode cX10_init 59 = .ok (.putfield 35, 3) := by decide +kernel
theorem dX10_init_62 : decode cX10_init 62 = .ok (.aload_n 0, 1) := by decide +kernel
theorem dX10_init_63 : decode cX10_init 63 = .ok (.iconst 0, 1) := by decide +kernel
theorem dX10_init_64 : decode cX10_init 64 = .ok (.putfield 38, 3) := by decide +kernel
theorem dX10_init_67 : decode cX10_init 67 = .ok (.aload_n 0, 1) := by decide +kernel
theorem dX10_init_68 : decode cX10_init 68 = .ok (.iconst 0, 1) := by decide +kernel
theorem dX10_init_69 : decode cX10_init 69 = .ok (.putfield 41, 3) := by decide +kernel
theorem dX10_init_72 : decode cX10_init 72 = .ok (.aload_n 0, 1) := by decide +kernel
theorem dX10_init_73 : decode cX10_init 73 = .ok (.iconst 0, 1) := by decide +kernel
theorem dX10_init_74 : decode cX10_init 74 = .ok (.putfield 44, 3) := by decide +kernel
theorem dX10_init_77 : decode cX10_init 77 = .ok (.aload_n 0, 1) := by decide +kernel
theorem dX10_init_78 : decode cX10_init 78 = .ok (.bipush 100, 2) := by decide +kernel
theorem dX10_init_80 : decode cX10_init 80 = .ok (.newarray .int, 2) := by decide +kernel
theorem dX10_init_82 : decode cX10_init 82 = .ok (.putfield 47, 3) := by decide +kernel
theorem dX10_init_85 : decode cX10_init 85 = .ok (.aload_n 0, 1) := by decide +kernel
theorem dX10_init_86 : decode cX10_init 86 = .ok (.bipush 6, 2) := by decide +kernel
theorem dX10_init_88 : decode cX10_init 88 = .ok (.newarray .int, 2) := by decide +kernel
theorem dX10_init_90 : decode cX10_init 90 = .ok (.putfield 50, 3) := by decide +kernel
theorem dX10_init_93 : decode cX10_init 93 = .ok (.aload_n 0, 1) := by decide +kernel
theorem dX10_init_94 : decode cX10_init 94 = .ok (.bipush 60, 2) := by decide +kernel
theorem dX10_init_96 : decode cX10_init 96 = .ok (.newarray .int, 2) := by decide +kernel
theorem dX10_init_98 : decode cX10_init 98 = .ok (.putfield 53, 3) := by decide +kernel
theorem dX10_init_101 : decode cX10_init 101 = .ok (.aload_n 0, 1) := by decide +kernel
theorem dX10_init_102 : decode cX10_init 102 = .ok (.bipush 60, 2) := by decide +kernel
theorem dX10_init_104 : decode cX10_init 104 = .ok (.newarray .int, 2) := by decide +kernel
theorem dX10_init_106 : decode cX10_init 106 = .ok (.putfield 56, 3) := by decide +kernel
theorem dX10_init_109 : decode cX10_init 109 = .ok (.aload_n 0, 1) := by decide +kernel
theorem dX10_init_110 : decode cX10_init 110 = .ok (.bipush 60, 2) := by decide +kernel
theorem dX10_init_112 : decode cX10_init 112 = .ok (.newarray .int, 2) := by decide +kernel
theorem dX10_init_114 : decode cX10_init 114 = .ok (.putfield 59, 3) := by decide +kernel
theorem dX10_init_117 : decode cX10_init 117 = .ok (.aload_n 0, 1) := by decide +kernel
theorem dX10_init_118 : decode cX10_init 118 = .ok (.bipush 60, 2) := by decide +kernel
theorem dX10_init_120 : decode cX10_init 120 = .ok (.newarray .int, 2) := by decide +kernel
theorem dX10_init_122 : decode cX10_init 122 = .ok (.putfield 62, 3) := by decide +kernel
theorem dX10_init_125 : decode cX10_init 125 = .ok (.aload_n 0, 1) := by decide +kernel
theorem dX10_init_126 : decode cX10_init 126 = .ok (.sipush 600, 3) := by decide +kernel
theorem dX10_init_129 : decode cX10_init 129 = .ok (.newarray .int, 2) := by decide +kernel
theorem dX10_init_131 : decode cX10_init 131 = .ok (.putfield 65, 3) := by decide +kernel
theorem dX10_init_134 : decode cX10_init 134 = .ok (.aload_n 0, 1) := by decide +kernel
theorem dX10_init_135 : decode cX10_init 135 = .ok (.bipush 101, 2) := by decide +kernel
theorem dX10_init_137 : decode cX10_init 137 = .ok (.newarray .int, 2) := by decide +kernel
theorem dX10_init_139 : decode cX10_init 139 = .ok (.putfield 68, 3) := by decide +kernel
theorem dX10_init_142 : decode cX10_init 142 = .ok (.aload_n 0, 1) := by decide +kernel
theorem dX10_init_143 : decode cX10_init 143 = .ok (.iconst 0, 1) := by decide +kernel
theorem dX10_init_144 : decode cX10_init 144 = .ok (.putfield 71, 3) := by decide +kernel
theorem dX10_init_147 : decode cX10_init 147 = .ok (.aload_n 0, 1) := by decide +kernel
theorem dX10_init_148 : decode cX10_init 148 = .ok (.iconst 0, 1) := by decide +kernel
theorem dX10_init_149 : decode cX10_init 149 = .ok (.putfield 74, 3) := by decide +kernel
theorem dX10_init_152 : decode cX10_init 152 = .ok (.aload_n 0, 1) := by decide +kernel
theorem dX10_init_153 : decode cX10_init 153 = .ok (.iconst 0, 1) := by decide +kernel
theorem dX10_init_154 : decode cX10_init 154 = .ok (.putfield 77, 3) := by decide +kernel
theorem dX10_init_157 : decode cX10_init 157 = .ok (.aload_n 0, 1) := by decide +kernel
theorem dX10_init_158 : decode cX10_init 158 = .ok (.bipush 12, 2) := by decide +kernel
theorem dX10_init_160 : decode cX10_init 160 = .ok (.newarray .int, 2) := by decide +kernel
theorem dX10_init_162 : decode cX10_init 162 = .ok (.dup, 1) := by decide +kernel
theorem dX10_init_163 : decode cX10_init 163 = .ok (.iconst 0, 1) := by decide +kernel
theorem dX10_init_164 : decode cX10_init 164 = .ok (.bipush 110, 2) := by decide +kernel
theorem dX10_init_166 : decode cX10_init 166 = .ok (.iastore, 1) := by decide +kernel
theorem dX10_init_167 : decode cX10_init 167 = .ok (.dup, 1) := by decide +kernel
theorem dX10_init_168 : decode cX10_init 168 = .ok (.iconst 1, 1) := by decide +kernel
theorem dX10_init_169 : decode cX10_init 169 = .ok (.bipush 101, 2) := by decide +kernel
theorem dX10_init_171 : decode cX10_init 171 = .ok (.iastore, 1) := by decide +kernel
theorem dX10_init_172 : decode cX10_init 172 = .ok (.dup, 1) := by decide +kernel
theorem dX10_init_173 : decode cX10_init 173 = .ok (.iconst 2, 1) := by decide +kernel
theorem dX10_init_174 : decode cX10_init 174 = .ok (.bipush 119, 2) := by decide +kernel
theorem dX10_init_176 : decode cX10_init 176 = .ok (.iastore, 1) := by decide +kernel
theorem dX10_init_177 : decode cX10_init 177 = .ok (.dup, 1) := by decide +kernel
theorem dX10_init_178 : decode cX10_init 178 = .ok (.iconst 3, 1) := by decide +kernel
theorem dX10_init_179 : decode cX10_init 179 = .ok (.bipush 115, 2) := by decide +kernel
theorem dX10_init_181 : decode cX10_init 181 = .ok (.iastore, 1) := by decide +kernel
theorem dX10_init_182 : decode cX10_init 182 = .ok (.dup, 1) := by decide +kernel
theorem dX10_init_183 : decode cX10_init 183 = .ok (.iconst 4, 1) := by decide +kernel
theorem dX10_init_184 : decode cX10_init 184 = .ok (.bipush 104, 2) := by decide +kernel
theorem dX10_init_186 : decode cX10_init 186 = .ok (.iastore, 1) := by decide +kernel
theorem dX10_init_187 : decode cX10_init 187 = .ok (.dup, 1) := by decide +kernel
theorem dX10_init_188 : decode cX10_init 188 = .ok (.iconst 5, 1) := by decide +kernel
theorem dX10_init_189 : decode cX10_init 189 = .ok (.bipush 117, 2) := by decide +kernel
theorem dX10_init_191 : decode cX10_init 191 = .ok (.iastore, 1) := by decide +kernel
theorem dX10_init_192 : decode cX10_init 192 = .ok (.dup, 1) := by decide +kernel
theorem dX10_init_193 : decode cX10_init 193 = .ok (.bipush 6, 2) := by decide +kernel
theorem dX10_init_195 : decode cX10_init 195 = .ok (.bipush 115, 2) := by decide +kernel
theorem dX10_init_197 : decode cX10_init 197 = .ok (.iastore, 1) := by decide +kernel
theorem dX10_init_198 : decode cX10_init 198 = .ok (.dup, 1) := by decide +kernel
theorem dX10_init_199 : decode cX10_init 199 = .ok (.bipush 7, 2) := by decide +kernel
theorem dX10_init_201 : decode cX10_init 201 = .ok (.bipush 104, 2) := by decide +kernel
theorem dX10_init_203 : decode cX10_init 203 = .ok (.iastore, 1) := by decide +kernel
theorem dX10_init_204 : decode cX10_init 204 = .ok (.dup, 1) := by decide +kernel
theorem dX10_init_205 : decode cX10_init 205 = .ok (.bipush 8, 2) := by decide +kernel
theorem dX10_init_207 : decode cX10_init 207 = .ok (.bipush 112, 2) := by decide +kernel
theorem dX10_init_209 : decode cX10_init 209 = .ok (.iastore, 1) := by decide +kernel
theorem dX10_init_210 : decode cX10_init 210 = .ok (.dup, 1) := by decide +kernel
theorem dX10_init_211 : decode cX10_init 211 = .ok (.bipush 9, 2) := by decide +kernel
theorem dX10_init_213 : decode cX10_init 213 = .ok (.bipush 97, 2) := by decide +kernel
theorem dX10_init_215 : decode cX10_init 215 = .ok (.iastore, 1) := by decide +kernel
theorem dX10_init_216 : decode cX10_init 216 = .ok (.dup, 1) := by decide +kernel
theorem dX10_init_217 : decode cX10_init 217 = .ok (.bipush 10, 2) := by decide +kernel
theorem dX10_init_219 : decode cX10_init 219 = .ok (.bipush 99, 2) := by decide +kernel
theorem dX10_init_221 : decode cX10_init 221 = .ok (.iastore, 1) := by decide +kernel
theorem dX10_init_222 : decode cX10_init 222 = .ok (.dup, 1) := by decide +kernel
theorem dX10_init_223 : decode cX10_init 223 = .ok (.bipush 11, 2) := by decide +kernel
theorem dX10_init_225 : decode cX10_init 225 = .ok (.bipush 101, 2) := by decide +kernel
theorem dX10_init_227 : decode cX10_init 227 = .ok (.iastore, 1) := by decide +kernel
theorem dX10_init_228 : decode cX10_init 228 = .ok (.putfield 80, 3) := by decide +kernel
theorem dX10_init_231 : decode cX10_init 231 = .ok (.aload_n 0, 1) := by decide +kernel
theorem dX10_init_232 : decode cX10_init 232 = .ok (.bipush 100, 2) := by decide +kernel
theorem dX10_init_234 : decode cX10_init 234 = .ok (.newarray .boolean, 2) := by decide +kernel
theorem dX10_init_236 : decode cX10_init 236 = .ok (.putfield 83, 3) := by decide +kernel
theorem dX10_init_239 : decode cX10_init 239 = .ok (.aload_n 0, 1) := by decide +kernel
theorem dX10_init_240 : decode cX10_init 240 = .ok (.iconst 0, 1) := by decide +kernel
theorem dX10_init_241 : decode cX10_init 241 = .ok (.putfield 87, 3) := by decide +kernel
theorem dX10_init_244 : decode cX10_init 244 = .ok (.aload_n 0, 1) := by decide +kernel
theorem dX10_init_245 : decode cX10_init 245 = .ok (.sipush 4800, 3) := by decide +kernel
theorem dX10_init_248 : decode cX10_init 248 = .ok (.newarray .int, 2) := by decide +kernel
theorem dX10_init_250 : decode cX10_init 250 = .ok (.putfield 91, 3) := by decide +kernel
theorem dX10_init_253 : decode cX10_init 253 = .ok (.aload_n 0, 1) := by decide +kernel
theorem dX10_init_254 : decode cX10_init 254 = .ok (.bipush 6, 2) := by decide +kernel
theorem dX10_init_256 : decode cX10_init 256 = .ok (.newarray .int, 2) := by decide +kernel
theorem dX10_init_258 : decode cX10_init 258 = .ok (.putfield 94, 3) := by decide +kernel
theorem dX10_init_261 : decode cX10_init 261 = .ok (.aload_n 0, 1) := by decide +kernel
theorem dX10_init_262 : decode cX10_init 262 = .ok (.iconst 0, 1) := by decide +kernel
theorem dX10_init_263 : decode cX10_init 263 = .ok (.putfield 97, 3) := by decide +kernel
theorem dX10_init_266 : decode cX10_init 266 = .ok (.aload_n 0, 1) := by decide +kernel
theorem dX10_init_267 : decode cX10_init 267 = .ok (.iconst 0, 1) := by decide +kernel
theorem dX10_init_268 : decode cX10_init 268 = .ok (.putfield 100, 3) := by decide +kernel
theorem dX10_init_271 : decode cX10_init 271 = .ok (.aload_n 0, 1) := by decide +kernel
theorem dX10_init_272 : decode cX10_init 272 = .ok (.bipush 6, 2) := by decide +kernel
theorem dX10_init_274 : decode cX10_init 274 = .ok (.newarray .int, 2) := by decide +kernel
theorem dX10_init_276 : decode cX10_init 276 = .ok (.putfield 103, 3) := by decide +kernel
theorem dX10_init_279 : decode cX10_init 279 = .ok (.aload_n 0, 1) := by decide +kernel
theorem dX10_init_280 : decode cX10_init 280 = .ok (.bipush 6, 2) := by decide +kernel
theorem dX10_init_282 : decode cX10_init 282 = .ok (.newarray .int, 2) := by decide +kernel
theorem dX10_init_284 : decode cX10_init 284 = .ok (.putfield 106, 3) := by decide +kernel
theorem dX10_init_287 : decode cX10_init 287 = .ok (.aload_n 0, 1) := by decide +kernel
theorem dX10_init_288 : decode cX10_init 288 = .ok (.bipush 6, 2) := by decide +kernel
theorem dX10_init_290 : decode cX10_init 290 = .ok (.newarray .int, 2) := by decide +kernel
theorem dX10_init_292 : decode cX10_init 292 = .ok (.putfield 109, 3) := by decide +kernel
theorem dX10_init_295 : decode cX10_init 295 = .ok (.aload_n 0, 1) := by decide +kernel
theorem dX10_init_296 : decode cX10_init 296 = .ok (.iconst 0, 1) := by decide +kernel
theorem dX10_init_297 : decode cX10_init 297 = .ok (.putfield 112, 3) := by decide +kernel
theorem dX10_init_300 : decode cX10_init 300 = .ok (.aload_n 0, 1) := by decide +kernel
theorem dX10_init_301 : decode cX10_init 301 = .ok (.iconst 5, 1) := by decide +kernel
theorem dX10_init_302 : decode cX10_init 302 = .ok (.newarray .int, 2) := by decide +kernel
theorem dX10_init_304 : decode cX10_init 304 = .ok (.putfield 115, 3) := by decide +kernel
theorem dX10_init_307 : decode cX10_init 307 = .ok (.aload_n 0, 1) := by decide +kernel
theorem dX10_init_308 : decode cX10_init 308 = .ok (.iconst 5, 1) := by decide +kernel
theorem dX10_init_309 : decode cX10_init 309 = .ok (.newarray .int, 2) := by decide +kernel
theorem dX10_init_311 : decode cX10_init 311 = .ok (.putfield 118, 3) := by decide +kernel
theorem dX10_init_314 : decode cX10_init 314 = .ok (.aload_n 0, 1) := by decide +kernel
theorem dX10_init_315 : decode cX10_init 315 = .ok (.iconst 5, 1) := by decide +kernel
theorem dX10_init_316 : decode cX10_init 316 = .ok (.newarray .int, 2) := by decide +kernel
theorem dX10_init_318 : decode cX10_init 318 = .ok (.putfield 121, 3) := by decide +kernel
theorem dX10_init_321 : decode cX10_init 321 = .ok (.aload_n 0, 1) := by decide +kernel
theorem dX10_init_322 : decode cX10_init 322 = .ok (.iconst 0, 1) := by decide +kernel
theorem dX10_init_323 : decode cX10_init 323 = .ok (.putfield 124, 3) := by decide +kernel
theorem dX10_init_326 : decode cX10_init 326 = .ok (.aload_n 0, 1) := by decide +kernel
theorem dX10_init_327 : decode cX10_init 327 = .ok (.iconst 0, 1) := by decide +kernel
theorem dX10_init_328 : decode cX10_init 328 = .ok (.putfield 127, 3) := by decide +kernel
theorem dX10_init_331 : decode cX10_init 331 = .ok (.aload_n 0, 1) := by decide +kernel
theorem dX10_init_332 : decode cX10_init 332 = .ok (.bipush 10, 2) := by decide +kernel
theorem dX10_init_334 : decode cX10_init 334 = .ok (.newarray .int, 2) := by decide +kernel
theorem dX10_init_336 : decode cX10_init 336 = .ok (.putfield 130, 3) := by decide +kernel
theorem dX10_init_339 : decode cX10_init 339 = .ok (.aload_n 0, 1) := by decide +kernel
theorem dX10_init_340 : decode cX10_init 340 = .ok (.bipush 8, 2) := by decide +kernel
theorem dX10_init_342 : decode cX10_init 342 = .ok (.newarray .int, 2) := by decide +kernel
theorem dX10_init_344 : decode cX10_init 344 = .ok (.putfield 133, 3) := by decide +kernel
theorem dX10_init_347 : decode cX10_init 347 = .ok (.aload_n 0, 1) := by decide +kernel
theorem dX10_init_348 : decode cX10_init 348 = .ok (.bipush 8, 2) := by decide +kernel
theorem dX10_init_350 : decode cX10_init 350 = .ok (.newarray .int, 2) := by decide +kernel
theorem dX10_init_352 : decode cX10_init 352 = .ok (.putfield 136, 3) := by decide +kernel
theorem dX10_init_355 : decode cX10_init 355 = .ok (.aload_n 0, 1) := by decide +kernel
theorem dX10_init_356 : decode cX10_init 356 = .ok (.iconst 0, 1) := by decide +kernel
theorem dX10_init_357 : decode cX10_init 357 = .ok (.putfield 139, 3) := by decide +kernel
theorem dX10_init_360 : decode cX10_init 360 = .ok (.aload_n 0, 1) := by decide +kernel
theorem dX10_init_361 : decode cX10_init 361 = .ok (.iconst (-1), 1) := by decide +kernel
theorem dX10_init_362 : decode cX10_init 362 = .ok (.putfield 142, 3) := by decide +kernel
theorem dX10_init_365 : decode cX10_init 365 = .ok (.aload_n 0, 1) := by decide +kernel
theorem dX10_init_366 : decode cX10_init 366 = .ok (.iconst 0, 1) := by decide +kernel
theorem dX10_init_367 : decode cX10_init 367 = .ok (.putfield 145, 3) := by decide +kernel
theorem dX10_init_370 : decode cX10_init 370 = .ok (.aload_n 0, 1) := by decide +kernel
theorem dX10_init_371 : decode cX10_init 371 = .ok (.iconst 0, 1) := by decide +kernel
theorem dX10_init_372 : decode cX10_init 372 = .ok (.putfield 148, 3) := by decide +kernel
theorem dX10_init_375 : decode cX10_init 375 = .ok (.aload_n 0, 1) := by decide +kernel
theorem dX10_init_376 : decode cX10_init 376 = .ok (.iconst 0, 1) := by decide +kernel
theorem dX10_init_377 : decode cX10_init 377 = .ok (.putfield 151, 3) := by decide +kernel
theorem dX10_init_380 : decode cX10_init 380 = .ok (.aload_n 0, 1) := by decide +kernel
theorem dX10_init_381 : decode cX10_init 381 = .ok (.iconst 0, 1) := by decide +kernel
theorem dX10_init_382 : decode cX10_init 382 = .ok (.putfield 154, 3) := by decide +kernel
theorem dX10_init_385 : decode cX10_init 385 = .ok (.aload_n 0, 1) := by decide +kernel
theorem dX10_init_386 : decode cX10_init 386 = .ok (.iconst 0, 1) := by decide +kernel
theorem dX10_init_387 : decode cX10_init 387 = .ok (.putfield 157, 3) := by decide +kernel
theorem dX10_init_390 : decode cX10_init 390 = .ok (.aload_n 0, 1) := by decide +kernel
theorem dX10_init_391 : decode cX10_init 391 = .ok (.iconst 0, 1) := by decide +kernel
theorem dX10_init_392 : decode cX10_init 392 = .ok (.putfield 160, 3) := by decide +kernel
theorem dX10_init_395 : decode cX10_init 395 = .ok (.aload_n 0, 1) := by decide +kernel
theorem dX10_init_396 : decode cX10_init 396 = .ok (.bipush 6, 2) := by decide +kernel
theorem dX10_init_398 : decode cX10_init 398 = .ok (.newarray .int, 2) := by decide +kernel
theorem dX10_init_400 : decode cX10_init 400 = .ok (.putfield 163, 3) := by decide +kernel
theorem dX10_init_403 : decode cX10_init 403 = .ok (.aload_n 0, 1) := by decide +kernel
theorem dX10_init_404 : decode cX10_init 404 = .ok (.bipush 6, 2) := by decide +kernel
theorem dX10_init_406 : decode cX10_init 406 = .ok (.newarray .int, 2) := by decide +kernel
theorem dX10_init_408 : decode cX10_init 408 = .ok (.putfield 166, 3) := by decide +kernel
theorem dX10_init_411 : decode cX10_init 411 = .ok (.aload_n 0, 1) := by decide +kernel
theorem dX10_init_412 : decode cX10_init 412 = .ok (.bipush 6, 2) := by decide +kernel
theorem dX10_init_414 : decode cX10_init 414 = .ok (.newarray .int, 2) := by decide +kernel
theorem dX10_init_416 : decode cX10_init 416 = .ok (.putfield 169, 3) := by decide +kernel
theorem dX10_init_419 : decode cX10_init 419 = .ok (.aload_n 0, 1) := by decide +kernel
theorem dX10_init_420 : decode cX10_init 420 = .ok (.bipush 24, 2) := by decide +kernel
theorem dX10_init_422 : decode cX10_init 422 = .ok (.newarray .int, 2) := by decide +kernel
theorem dX10_init_424 : decode cX10_init 424 = .ok (.putfield 172, 3) := by decide +kernel
theorem dX10_init_427 : decode cX10_init 427 = .ok (.aload_n 0, 1) := by decide +kernel
theorem dX10_init_428 : decode cX10_init 428 = .ok (.iconst 5, 1) := by decide +kernel
theorem dX10_init_429 : decode cX10_init 429 = .ok (.newarray .int, 2) := by decide +kernel
theorem dX10_init_431 : decode cX10_init 431 = .ok (.putfield 175, 3) := by decide +kernel
theorem dX10_init_434 : decode cX10_init 434 = .ok (.aload_n 0, 1) := by decide +kernel
theorem dX10_init_435 : decode cX10_init 435 = .ok (.iconst 5, 1) := by decide +kernel
theorem dX10_init_436 : decode cX10_init 436 = .ok (.newarray .int, 2) := by decide +kernel
theorem dX10_init_438 : decode cX10_init 438 = .ok (.putfield 178, 3) := by decide +kernel
theorem dX10_init_441 : decode cX10_init 441 = .ok (.aload_n 0, 1) := by decide +kernel
theorem dX10_init_442 : decode cX10_init 442 = .ok (.iconst 5, 1) := by decide +kernel
theorem dX10_init_443 : decode cX10_init 443 = .ok (.newarray .int, 2) := by decide +kernel
theorem dX10_init_445 : decode cX10_init 445 = .ok (.putfield 181, 3) := by decide +kernel
theorem dX10_init_448 : decode cX10_init 448 = .ok (.aload_n 0, 1) := by decide +kernel
theorem dX10_init_449 : decode cX10_init 449 = .ok (.bipush 10, 2) := by decide +kernel
theorem dX10_init_451 : decode cX10_init 451 = .ok (.newarray .int, 2) := by decide +kernel
theorem dX10_init_453 : decode cX10_init 453 = .ok (.putfield 184, 3) := by decide +kernel
theorem dX10_init_456 : decode cX10_init 456 = .ok (.aload_n 0, 1) := by decide +kernel
theorem dX10_init_457 : decode cX10_init 457 = .ok (.bipush 8, 2) := by decide +kernel
theorem dX10_init_459 : decode cX10_init 459 = .ok (.newarray .int, 2) := by decide +kernel
theorem dX10_init_461 : decode cX10_init 461 = .ok (.putfield 187, 3) := by decide +kernel
theorem dX10_init_464 : decode cX10_init 464 = .ok (.aload_n 0, 1) := by decide +kernel
theorem dX10_init_465 : decode cX10_init 465 = .ok (.bipush 8, 2) := by decide +kernel
theorem dX10_init_467 : decode cX10_init 467 = .ok (.newarray .int, 2) := by decide +kernel
theorem dX10_init_469 : decode cX10_init 469 = .ok (.putfield 190, 3) := by decide +kernel
theorem dX10_init_472 : decode cX10_init 472 = .ok (.aload_n 0, 1) := by decide +kernel
theorem dX10_init_473 : decode cX10_init 473 = .ok (.iconst 0, 1) := by decide +kernel
theorem dX10_init_474 : decode cX10_init 474 = .ok (.putfield 193, 3) := by decide +kernel
theorem dX10_init_477 : decode cX10_init 477 = .ok (.aload_n 0, 1) := by decide +kernel
theorem dX10_init_478 : decode cX10_init 478 = .ok (.bipush 20, 2) := by decide +kernel
theorem dX10_init_480 : decode cX10_init 480 = .ok (.newarray .int, 2) := by decide +kernel
theorem dX10_init_482 : decode cX10_init 482 = .ok (.putfield 196, 3) := by decide +kernel
theorem dX10_init_485 : decode cX10_init 485 = .ok (.aload_n 0, 1) := by decide +kernel
theorem dX10_init_486 : decode cX10_init 486 = .ok (.bipush 6, 2) := by decide +kernel
theorem dX10_init_488 : decode cX10_init 488 = .ok (.newarray .int, 2) := by decide +kernel
theorem dX10_init_490 : decode cX10_init 490 = .ok (.dup, 1) := by decide +kernel
theorem dX10_init_491 : decode cX10_init 491 = .ok (.iconst 0, 1) := by decide +kernel
theorem dX10_init_492 : decode cX10_init 492 = .ok (.iconst (-1), 1) := by decide +kernel
theorem dX10_init_493 : decode cX10_init 493 = .ok (.iastore, 1) := by decide +kernel
theorem dX10_init_494 : decode cX10_init 494 = .ok (.dup, 1) := by decide +kernel
theorem dX10_init_495 : decode cX10_init 495 = .ok (.iconst 1, 1) := by decide +kernel
theorem dX10_init_496 : decode cX10_init 496 = .ok (.iconst (-1), 1) := by decide +kernel
theorem dX10_init_497 : decode cX10_init 497 = .ok (.iastore, 1) := by decide +kernel
theorem dX10_init_498 : decode cX10_init 498 = .ok (.dup, 1) := by decide +kernel
theorem dX10_init_499 : decode cX10_init 499 = .ok (.iconst 2, 1) := by decide +kernel
theorem dX10_init_500 : decode cX10_init 500 = .ok (.iconst (-1), 1) := by decide +kernel
theorem dX10_init_501 : decode cX10_init 501 = .ok (.iastore, 1) := by decide +kernel
theorem dX10_init_502 : decode cX10_init 502 = .ok (.dup, 1) := by decide +kernel
theorem dX10_init_503 : decode cX10_init 503 = .ok (.iconst 3, 1) := by decide +kernel
theorem dX10_init_504 : decode cX10_init 504 = .ok (.iconst (-1), 1) := by decide +kernel
theorem dX10_init_505 : decode cX10_init 505 = .ok (.iastore, 1) := by decide +kernel
theorem dX10_init_506 : decode cX10_init 506 = .ok (.dup, 1) := by decide +kernel
theorem dX10_init_507 : decode cX10_init 507 = .ok (.iconst 4, 1) := by decide +kernel
theorem dX10_init_508 : decode cX10_init 508 = .ok (.iconst (-1), 1) := by decide +kernel
theorem dX10_init_509 : decode cX10_init 509 = .ok (.iastore, 1) := by decide +kernel
theorem dX10_init_510 : decode cX10_init 510 = .ok (.dup, 1) := by decide +kernel
theorem dX10_init_511 : decode cX10_init 511 = .ok (.iconst 5, 1) := by decide +kernel
theorem dX10_init_512 : decode cX10_init 512 = .ok (.iconst (-1), 1) := by decide +kernel
theorem dX10_init_513 : decode cX10_init 513 = .ok (.iastore, 1) := by decide +kernel
theorem dX10_init_514 : decode cX10_init 514 = .ok (.putfield 199, 3) := by decide +kernel
theorem dX10_init_517 : decode cX10_init 517 = .ok (.aload_n 0, 1) := by decide +kernel
theorem dX10_init_518 : decode cX10_init 518 = .ok (.bipush 6, 2) := by decide +kernel
theorem dX10_init_520 : decode cX10_init 520 = .ok (.newarray .int, 2) := by decide +kernel
theorem dX10_init_522 : decode cX10_init 522 = .ok (.putfield 202, 3) := by decide +kernel
theorem dX10_init_525 : decode cX10_init 525 = .ok (.aload_n 0, 1) := by decide +kernel
theorem dX10_init_526 : decode cX10_init 526 = .ok (.sipush 360, 3) := by decide +kernel
theorem dX10_init_529 : decode cX10_init 529 = .ok (.newarray .long, 2) := by decide +kernel
theorem dX10_init_531 : decode cX10_init 531 = .ok (.putfield 205, 3) := by decide +kernel
theorem dX10_init_534 : decode cX10_init 534 = .ok (.aload_n 0, 1) := by decide +kernel
theorem dX10_init_535 : decode cX10_init 535 = .ok (.bipush 60, 2) := by decide +kernel
theorem dX10_init_537 : decode cX10_init 537 = .ok (.newarray .long, 2) := by decide +kernel
theorem dX10_init_539 : decode cX10_init 539 = .ok (.putfield 209, 3) := by decide +kernel
theorem dX10_init_542 : decode cX10_init 542 = .ok (.return_, 1) := by decide +kernel
theorem dX10_in_0 : decode cX10_in 0 = .ok (.iload_n 1, 1) := by decide +kernel
theorem dX10_in_1 : decode cX10_in 1 = .ok (.iload_n 2, 1) := by decide +kernel
theorem dX10_in_2 : decode cX10_in 2 = .ok (.if_icmp .lt 12, 3) := by decide +kernel
theorem dX10_in_5 : decode cX10_in 5 = .ok (.iload_n 1, 1) := by decide +kernel
theorem dX10_in_6 : decode cX10_in 6 = .ok (.iload_n 3, 1) := by decide +kernel
theorem dX10_in_7 : decode cX10_in 7 = .ok (.if_icmp .gt 7, 3) := by decide +kernel
theorem dX10_in_10 : decode cX10_in 10 = .ok (.iconst 1, 1) := by decide +kernel
theorem dX10_in_11 : decode cX10_in 11 = .ok (.goto 4, 3) := by decide +kernel
theorem dX10_in_14 : decode cX10_in 14 = .ok (.iconst 0, 1) := by decide +kernel
theorem dX10_in_15 : decode cX10_in 15 = .ok (.ireturn, 1) := by decide +kernel
theorem dX10_has_0 : decode cX10_has 0 = .ok (.iload_n 1, 1) := by decide +kernel
theorem dX10_has_1 : decode cX10_has 1 = .ok (.iload_n 2, 1) := by decide +kernel
theorem dX10_has_2 : decode cX10_has 2 = .ok (.ishr, 1) := by decide +kernel
theorem dX10_has_3 : decode cX10_has 3 = .ok (.iconst 1, 1) := by decide +kernel
theorem dX10_has_4 : decode cX10_has 4 = .ok (.iand, 1) := by decide +kernel
theorem dX10_has_5 : decode cX10_has 5 = .ok (.iconst 1, 1) := by decide +kernel
theorem dX10_has_6 : decode cX10_has 6 = .ok (.if_icmp .ne 7, 3) := by decide +kernel
theorem dX10_has_9 : decode cX10_has 9 = .ok (.iconst 1, 1) := by decide +kernel
theorem dX10_has_10 : decode cX10_has 10 = .ok (.goto 4, 3) := by decide +kernel
theorem dX10_has_13 : decode cX10_has 13 = .ok (.iconst 0, 1) := by decide +kernel
theorem dX10_has_14 : decode cX10_has 14 = .ok (.ireturn, 1) := by decide +kernel
theorem dX10_isClock_0 : decode cX10_isClock 0 = .ok (.aload_n 0, 1) := by decide +kernel
theorem dX10_isClock_1 : decode cX10_isClock 1 = .ok (.iload_n 1, 1) := by decide +kernel
theorem dX10_isClock_2 : decode cX10_isClock 2 = .ok (.iconst 0, 1) := by decide +kernel
theorem dX10_isClock_3 : decode cX10_isClock 3 = .ok (.aload_n 0, 1) := by decide +kernel
theorem dX10_isClock_4 : decode cX10_isClock 4 = .ok (.getfield 7, 3) := by decide +kernel
theorem dX10_isClock_7 : decode cX10_isClock 7 = .ok (.iconst 1, 1) := by decide +kernel
theorem dX10_isClock_8 : decode cX10_isClock 8 = .ok (.isub, 1) := by decide +kernel
theorem dX10_isClock_9 : decode cX10_isClock 9 = .ok (.invokevirtual 212, 3) := by decide +kernel
theorem dX10_isClock_12 : decode cX10_isClock 12 = .ok (.ireturn, 1) := by decide +kernel
theorem dX10_isEvenings_0 : decode cX10_isEvenings 0 = .ok (.aload_n 0, 1) := by decide +kernel
theorem dX10_isEvenings_1 : decode cX10_isEvenings 1 = .ok (.iload_n 1, 1) := by decide +kernel
theorem dX10_isEvenings_2 : decode cX10_isEvenings 2 = .ok (.iconst 0, 1) := by decide +kernel
theorem dX10_isEvenings_3 : decode cX10_isEvenings 3 = .ok (.bipush 60, 2) := by decide +kernel
theorem dX10_isEvenings_5 : decode cX10_isEvenings 5 = .ok (.invokevirtual 212, 3) := by decide +kernel
theorem dX10_isEvenings_8 : decode cX10_isEvenings 8 = .ok (.ireturn, 1) := by decide +kernel
theorem dX10_isDay_0 : decode cX10_isDay 0 = .ok (.aload_n 0, 1) := by decide +kernel
theorem dX10_isDay_1 : decode cX10_isDay 1 = .ok (.iload_n 1, 1) := by decide +kernel
theorem dX10_isDay_2 : decode cX10_isDay 2 = .ok (.iconst 0, 1) := by decide +kernel
theorem dX10_isDay_3 : decode cX10_isDay 3 = .ok (.sipush 9999, 3) := by decide +kernel
theorem dX10_isDay_6 : decode cX10_isDay 6 = .ok (.invokevirtual 212, 3) := by decide +kernel
theorem dX10_isDay_9 : decode cX10_isDay 9 = .ok (.ireturn, 1) := by decide +kernel
theorem dX10_balks_0 : decode cX10_balks 0 = .ok (.aload_n 0, 1) := by decide +kernel
theorem dX10_balks_1 : decode cX10_balks 1 = .ok (.iload_n 2, 1) := by decide +kernel
theorem dX10_balks_2 : decode cX10_balks 2 = .ok (.ifCond .eq 14, 3) := by decide +kernel
theorem dX10_balks_5 : decode cX10_balks 5 = .ok (.aload_n 0, 1) := by decide +kernel
theorem dX10_balks_6 : decode cX10_balks 6 = .ok (.getfield 13, 3) := by decide +kernel
theorem dX10_balks_9 : decode cX10_balks 9 = .ok (.iconst 1, 1) := by decide +kernel
theorem dX10_balks_10 : decode cX10_balks 10 = .ok (.iload_n 1, 1) := by decide +kernel
theorem dX10_balks_11 : decode cX10_balks 11 = .ok (.ishl, 1) := by decide +kernel
theorem dX10_balks_12 : decode cX10_balks 12 = .ok (.ior, 1) := by decide +kernel
theorem dX10_balks_13 : decode cX10_balks 13 = .ok (.goto 13, 3) := by decide +kernel
theorem dX10_balks_16 : decode cX10_balks 16 = .ok (.aload_n 0, 1) := by decide +kernel
theorem dX10_balks_17 : decode cX10_balks 17 = .ok (.getfield 13, 3) := by decide +kernel
theorem dX10_balks_20 : decode cX10_balks 20 = .ok (.iconst 1, 1) := by decide +kernel
theorem dX10_balks_21 : decode cX10_balks 21 = .ok (.iload_n 1, 1) := by decide +kernel
theorem dX10_balks_22 : decode cX10_balks 22 = .ok (.ishl, 1) := by decide +kernel
theorem dX10_balks_23 : decode cX10_balks 23 = .ok (.iconst (-1), 1) := by decide +kernel
theorem dX10_balks_24 : decode cX10_balks 24 = .ok (.ixor, 1) := by decide +kernel
theorem dX10_balks_25 : decode cX10_balks 25 = .ok (.iand, 1) := by decide +kernel
theorem dX10_balks_26 : decode cX10_balks 26 = .ok (.putfield 13, 3) := by decide +kernel
theorem dX10_balks_29 : decode cX10_balks 29 = .ok (.return_, 1) := by decide +kernel
theorem dX10_clock_0 : decode cX10_clock 0 = .ok (.aload_n 0, 1) := by decide +kernel
theorem dX10_clock_1 : decode cX10_clock 1 = .ok (.iload_n 1, 1) := by decide +kernel
theorem dX10_clock_2 : decode cX10_clock 2 = .ok (.iconst 0, 1) := by decide +kernel
theorem dX10_clock_3 : decode cX10_clock 3 = .ok (.bipush 6, 2) := by decide +kernel
theorem dX10_clock_5 : decode cX10_clock 5 = .ok (.invokevirtual 212, 3) := by decide +kernel
theorem dX10_clock_8 : decode cX10_clock 8 = .ok (.ifCond .ne 5, 3) := by decide +kernel
theorem dX10_clock_11 : decode cX10_clock 11 = .ok (.iconst (-1), 1) := by decide +kernel
theorem dX10_clock_12 : decode cX10_clock 12 = .ok (.ireturn, 1) := by decide +kernel
theorem dX10_clock_13 : decode cX10_clock 13 = .ok (.aload_n 0, 1) := by decide +kernel
theorem dX10_clock_14 : decode cX10_clock 14 = .ok (.iload_n 2, 1) := by decide +kernel
theorem dX10_clock_15 : decode cX10_clock 15 = .ok (.iconst 0, 1) := by decide +kernel
theorem dX10_clock_16 : decode cX10_clock 16 = .ok (.bipush 9, 2) := by decide +kernel
theorem dX10_clock_18 : decode cX10_clock 18 = .ok (.invokevirtual 212, 3) := by decide +kernel
theorem dX10_clock_21 : decode cX10_clock 21 = .ok (.ifCond .eq 16, 3) := by decide +kernel
theorem dX10_clock_24 : decode cX10_clock 24 = .ok (.aload_n 0, 1) := by decide +kernel
theorem dX10_clock_25 : decode cX10_clock 25 = .ok (.iload_n 3, 1) := by decide +kernel
theorem dX10_clock_26 : decode cX10_clock 26 = .ok (.iconst 0, 1) := by decide +kernel
theorem dX10_clock_27 : decode cX10_clock 27 = .ok (.aload_n 0, 1) := by decide +kernel
theorem dX10_clock_28 : decode cX10_clock 28 = .ok (.getfield 16, 3) := by decide +kernel
theorem dX10_clock_31 : decode cX10_clock 31 = .ok (.invokevirtual 212, 3) := by decide +kernel
theorem dX10_clock_34 : decode cX10_clock 34 = .ok (.ifCond .ne 6, 3) := by decide +kernel
theorem dX10_clock_37 : decode cX10_clock 37 = .ok (.bipush (-2), 2) := by decide +kernel
theorem dX10_clock_39 : decode cX10_clock 39 = .ok (.ireturn, 1) := by decide +kernel
theorem dX10_clock_40 : decode cX10_clock 40 = .ok (.aload_n 0, 1) := by decide +kernel
theorem dX10_clock_41 : decode cX10_clock 41 = .ok (.getfield 7, 3) := by decide +kernel
theorem dX10_clock_44 : decode cX10_clock 44 = .ok (.bipush 6, 2) := by decide +kernel
theorem dX10_clock_46 : decode cX10_clock 46 = .ok (.if_icmp .ne 6, 3) := by decide +kernel
theorem dX10_clock_49 : decode cX10_clock 49 = .ok (.bipush (-4), 2) := by decide +kernel
theorem dX10_clock_51 : decode cX10_clock 51 = .ok (.ireturn, 1) := by decide +kernel
theorem dX10_clock_52 : decode cX10_clock 52 = .ok (.aload_n 0, 1) := by decide +kernel
theorem dX10_clock_53 : decode cX10_clock 53 = .ok (.getfield 19, 3) := by decide +kernel
theorem dX10_clock_56 : decode cX10_clock 56 = .ok (.aload_n 0, 1) := by decide +kernel
theorem dX10_clock_57 : decode cX10_clock 57 = .ok (.getfield 7, 3) := by decide +kernel
theorem dX10_clock_60 : decode cX10_clock 60 = .ok (.iload_n 1, 1) := by decide +kernel
theorem dX10_clock_61 : decode cX10_clock 61 = .ok (.iastore, 1) := by decide +kernel
theorem dX10_clock_62 : decode cX10_clock 62 = .ok (.aload_n 0, 1) := by decide +kernel
theorem dX10_clock_63 : decode cX10_clock 63 = .ok (.getfield 23, 3) := by decide +kernel
theorem dX10_clock_66 : decode cX10_clock 66 = .ok (.aload_n 0, 1) := by decide +kernel
theorem dX10_clock_67 : decode cX10_clock 67 = .ok (.getfield 7, 3) := by decide +kernel
theorem dX10_clock_70 : decode cX10_clock 70 = .ok (.iload_n 2, 1) := by decide +kernel
theorem dX10_clock_71 : decode cX10_clock 71 = .ok (.iastore, 1) := by decide +kernel
theorem dX10_clock_72 : decode cX10_clock 72 = .ok (.aload_n 0, 1) := by decide +kernel
theorem dX10_clock_73 : decode cX10_clock 73 = .ok (.getfield 26, 3) := by decide +kernel
theorem dX10_clock_76 : decode cX10_clock 76 = .ok (.aload_n 0, 1) := by decide +kernel
theorem dX10_clock_77 : decode cX10_clock 77 = .ok (.getfield 7, 3) := by decide +kernel
theorem dX10_clock_80 : decode cX10_clock 80 = .ok (.aload_n 0, 1) := by decide +kernel
theorem dX10_clock_81 : decode cX10_clock 81 = .ok (.getfield 16, 3) := by decide +kernel
theorem dX10_clock_84 : decode cX10_clock 84 = .ok (.iload_n 3, 1) := by decide +kernel
theorem dX10_clock_85 : decode cX10_clock 85 = .ok (.isub, 1) := by decide +kernel
theorem dX10_clock_86 : decode cX10_clock 86 = .ok (.iastore, 1) := by decide +kernel
theorem dX10_clock_87 : decode cX10_clock 87 = .ok (.aload_n 0, 1) := by decide +kernel
theorem dX10_clock_88 : decode cX10_clock 88 = .ok (.aload_n 0, 1) := by decide +kernel
theorem dX10_clock_89 : decode cX10_clock 89 = .ok (.getfield 7, 3) := by decide +kernel
theorem dX10_clock_92 : decode cX10_clock 92 = .ok (.iconst 0, 1) := by decide +kernel
theorem dX10_clock_93 : decode cX10_clock 93 = .ok (.invokevirtual 216, 3) := by decide +kernel
theorem dX10_clock_96 : decode cX10_clock 96 = .ok (.iconst 0, 1) := by decide +kernel
theorem dX10_clock_97 : decode cX10_clock 97 = .ok (.istore 4, 2) := by decide +kernel
theorem dX10_clock_99 : decode cX10_clock 99 = .ok (.iload 4, 2) := by decide +kernel
theorem dX10_clock_101 : decode cX10_clock 101 = .ok (.iconst 4, 1) := by decide +kernel
theorem dX10_clock_102 : decode cX10_clock 102 = .ok (.if_icmp .ge 24, 3) := by decide +kernel
theorem dX10_clock_105 : decode cX10_clock 105 = .ok (.aload_n 0, 1) := by decide +kernel
theorem dX10_clock_106 : decode cX10_clock 106 = .ok (.getfield 29, 3) := by decide +kernel
theorem dX10_clock_109 : decode cX10_clock 109 = .ok (.iconst 4, 1) := by decide +kernel
theorem dX10_clock_110 : decode cX10_clock 110 = .ok (.aload_n 0, 1) := by decide +kernel
theorem dX10_clock_111 : decode cX10_clock 111 = .ok (.getfield 7, 3) := by decide +kernel
theorem dX10_clock_114 : decode cX10_clock 114 = .ok (.imul, 1) := by decide +kernel
theorem dX10_clock_115 : decode cX10_clock 115 = .ok (.iload 4, 2) := by decide +kernel
theorem dX10_clock_117 : decode cX10_clock 117 = .ok (.iadd, 1) := by decide +kernel
theorem dX10_clock_118 : decode cX10_clock 118 = .ok (.iconst 0, 1) := by decide +kernel
theorem dX10_clock_119 : decode cX10_clock 119 = .ok (.iastore, 1) := by decide +kernel
theorem dX10_clock_120 : decode cX10_clock 120 = .ok (.iinc 4 1, 3) := by decide +kernel
theorem dX10_clock_123 : decode cX10_clock 123 = .ok (.goto (-24), 3) := by decide +kernel
theorem dX10_clock_126 : decode cX10_clock 126 = .ok (.aload_n 0, 1) := by decide +kernel
theorem dX10_clock_127 : decode cX10_clock 127 = .ok (.dup, 1) := by decide +kernel
theorem dX10_clock_128 : decode cX10_clock 128 = .ok (.getfield 7, 3) := by decide +kernel
theorem dX10_clock_131 : decode cX10_clock 131 = .ok (.iconst 1, 1) := by decide +kernel
theorem dX10_clock_132 : decode cX10_clock 132 = .ok (.iadd, 1) := by decide +kernel
theorem dX10_clock_133 : decode cX10_clock 133 = .ok (.putfield 7, 3) := by decide +kernel
theorem dX10_clock_136 : decode cX10_clock 136 = .ok (.aload_n 0, 1) := by decide +kernel
theorem dX10_clock_137 : decode cX10_clock 137 = .ok (.getfield 7, 3) := by decide +kernel
theorem dX10_clock_140 : decode cX10_clock 140 = .ok (.iconst 1, 1) := by decide +kernel
theorem dX10_clock_141 : decode cX10_clock 141 = .ok (.isub, 1) := by decide +kernel
theorem dX10_clock_142 : decode cX10_clock 142 = .ok (.ireturn, 1) := by decide +kernel
theorem dX10_set_0 : decode cX10_set 0 = .ok (.aload_n 0, 1) := by decide +kernel
theorem dX10_set_1 : decode cX10_set 1 = .ok (.iload_n 1, 1) := by decide +kernel
theorem dX10_set_2 : decode cX10_set 2 = .ok (.invokevirtual 220, 3) := by decide +kernel
theorem dX10_set_5 : decode cX10_set 5 = .ok (.ifCond .ne 5, 3) := by decide +kernel
theorem dX10_set_8 : decode cX10_set 8 = .ok (.iconst (-1), 1) := by decide +kernel
theorem dX10_set_9 : decode cX10_set 9 = .ok (.ireturn, 1) := by decide +kernel
theorem dX10_set_10 : decode cX10_set 10 = .ok (.aload_n 0, 1) := by decide +kernel
theorem dX10_set_11 : decode cX10_set 11 = .ok (.iload_n 2, 1) := by decide +kernel
theorem dX10_set_12 : decode cX10_set 12 = .ok (.iconst 0, 1) := by decide +kernel
theorem dX10_set_13 : decode cX10_set 13 = .ok (.aload_n 0, 1) := by decide +kernel
theorem dX10_set_14 : decode cX10_set 14 = .ok (.getfield 16, 3) := by decide +kernel
theorem dX10_set_17 : decode cX10_set 17 = .ok (.invokevirtual 212, 3) := by decide +kernel
theorem dX10_set_20 : decode cX10_set 20 = .ok (.ifCond .ne 6, 3) := by decide +kernel
theorem dX10_set_23 : decode cX10_set 23 = .ok (.bipush (-2), 2) := by decide +kernel
theorem dX10_set_25 : decode cX10_set 25 = .ok (.ireturn, 1) := by decide +kernel
theorem dX10_set_26 : decode cX10_set 26 = .ok (.aload_n 0, 1) := by decide +kernel
theorem dX10_set_27 : decode cX10_set 27 = .ok (.getfield 26, 3) := by decide +kernel
theorem dX10_set_30 : decode cX10_set 30 = .ok (.iload_n 1, 1) := by decide +kernel
theorem dX10_set_31 : decode cX10_set 31 = .ok (.iaload, 1) := by decide +kernel
theorem dX10_set_32 : decode cX10_set 32 = .ok (.istore_n 3, 1) := by decide +kernel
theorem dX10_set_33 : decode cX10_set 33 = .ok (.aload_n 0, 1) := by decide +kernel
theorem dX10_set_34 : decode cX10_set 34 = .ok (.getfield 26, 3) := by decide +kernel
theorem dX10_set_37 : decode cX10_set 37 = .ok (.iload_n 1, 1) := by decide +kernel
theorem dX10_set_38 : decode cX10_set 38 = .ok (.iload_n 2, 1) := by decide +kernel
theorem dX10_set_39 : decode cX10_set 39 = .ok (.iastore, 1) := by decide +kernel
theorem dX10_set_40 : decode cX10_set 40 = .ok (.iload_n 3, 1) := by decide +kernel
theorem dX10_set_41 : decode cX10_set 41 = .ok (.ireturn, 1) := by decide +kernel
theorem dX10_balk_0 : decode cX10_balk 0 = .ok (.aload_n 0, 1) := by decide +kernel
theorem dX10_balk_1 : decode cX10_balk 1 = .ok (.iload_n 1, 1) := by decide +kernel
theorem dX10_balk_2 : decode cX10_balk 2 = .ok (.invokevirtual 220, 3) := by decide +kernel
theorem dX10_balk_5 : decode cX10_balk 5 = .ok (.ifCond .ne 5, 3) := by decide +kernel
theorem dX10_balk_8 : decode cX10_balk 8 = .ok (.iconst (-1), 1) := by decide +kernel
theorem dX10_balk_9 : decode cX10_balk 9 = .ok (.ireturn, 1) := by decide +kernel
theorem dX10_balk_10 : decode cX10_balk 10 = .ok (.aload_n 0, 1) := by decide +kernel
theorem dX10_balk_11 : decode cX10_balk 11 = .ok (.aload_n 0, 1) := by decide +kernel
theorem dX10_balk_12 : decode cX10_balk 12 = .ok (.getfield 13, 3) := by decide +kernel
theorem dX10_balk_15 : decode cX10_balk 15 = .ok (.iload_n 1, 1) := by decide +kernel
theorem dX10_balk_16 : decode cX10_balk 16 = .ok (.invokevirtual 224, 3) := by decide +kernel
theorem dX10_balk_19 : decode cX10_balk 19 = .ok (.ifCond .eq 7, 3) := by decide +kernel
theorem dX10_balk_22 : decode cX10_balk 22 = .ok (.iconst 1, 1) := by decide +kernel
theorem dX10_balk_23 : decode cX10_balk 23 = .ok (.goto 4, 3) := by decide +kernel
theorem dX10_balk_26 : decode cX10_balk 26 = .ok (.iconst 0, 1) := by decide +kernel
theorem dX10_balk_27 : decode cX10_balk 27 = .ok (.istore_n 3, 1) := by decide +kernel
theorem dX10_balk_28 : decode cX10_balk 28 = .ok (.aload_n 0, 1) := by decide +kernel
theorem dX10_balk_29 : decode cX10_balk 29 = .ok (.iload_n 1, 1) := by decide +kernel
theorem dX10_balk_30 : decode cX10_balk 30 = .ok (.iload_n 2, 1) := by decide +kernel
theorem dX10_balk_31 : decode cX10_balk 31 = .ok (.invokevirtual 216, 3) := by decide +kernel
theorem dX10_balk_34 : decode cX10_balk 34 = .ok (.iload_n 3, 1) := by decide +kernel
theorem dX10_balk_35 : decode cX10_balk 35 = .ok (.ireturn, 1) := by decide +kernel
theorem dX10_row_0 : decode cX10_row 0 = .ok (.aload_n 0, 1) := by decide +kernel
theorem dX10_row_1 : decode cX10_row 1 = .ok (.iload_n 1, 1) := by decide +kernel
theorem dX10_row_2 : decode cX10_row 2 = .ok (.invokevirtual 220, 3) := by decide +kernel
theorem dX10_row_5 : decode cX10_row 5 = .ok (.ifCond .eq 13, 3) := by decide +kernel
theorem dX10_row_8 : decode cX10_row 8 = .ok (.aload_n 0, 1) := by decide +kernel
theorem dX10_row_9 : decode cX10_row 9 = .ok (.iload_n 2, 1) := by decide +kernel
theorem dX10_row_10 : decode cX10_row 10 = .ok (.iconst 0, 1) := by decide +kernel
theorem dX10_row_11 : decode cX10_row 11 = .ok (.iconst 3, 1) := by decide +kernel
theorem dX10_row_12 : decode cX10_row 12 = .ok (.invokevirtual 212, 3) := by decide +kernel
theorem dX10_row_15 : decode cX10_row 15 = .ok (.ifCond .ne 5, 3) := by decide +kernel
theorem dX10_row_18 : decode cX10_row 18 = .ok (.iconst (-1), 1) := by decide +kernel
theorem dX10_row_19 : decode cX10_row 19 = .ok (.ireturn, 1) := by decide +kernel
theorem dX10_row_20 : decode cX10_row 20 = .ok (.aload_n 0, 1) := by decide +kernel
theorem dX10_row_21 : decode cX10_row 21 = .ok (.iload_n 3, 1) := by decide +kernel
theorem dX10_row_22 : decode cX10_row 22 = .ok (.iconst 0, 1) := by decide +kernel
theorem dX10_row_23 : decode cX10_row 23 = .ok (.bipush 9, 2) := by decide +kernel
theorem dX10_row_25 : decode cX10_row 25 = .ok (.invokevirtual 212, 3) := by decide +kernel
theorem dX10_row_28 : decode cX10_row 28 = .ok (.ifCond .ne 6, 3) := by decide +kernel
theorem dX10_row_31 : decode cX10_row 31 = .ok (.bipush (-2), 2) := by decide +kernel
theorem dX10_row_33 : decode cX10_row 33 = .ok (.ireturn, 1) := by decide +kernel
theorem dX10_row_34 : decode cX10_row 34 = .ok (.aload_n 0, 1) := by decide +kernel
theorem dX10_row_35 : decode cX10_row 35 = .ok (.getfield 19, 3) := by decide +kernel
theorem dX10_row_38 : decode cX10_row 38 = .ok (.iload_n 1, 1) := by decide +kernel
theorem dX10_row_39 : decode cX10_row 39 = .ok (.iaload, 1) := by decide +kernel
theorem dX10_row_40 : decode cX10_row 40 = .ok (.bipush 6, 2) := by decide +kernel
theorem dX10_row_42 : decode cX10_row 42 = .ok (.if_icmp .eq 6, 3) := by decide +kernel
theorem dX10_row_45 : decode cX10_row 45 = .ok (.bipush (-3), 2) := by decide +kernel
theorem dX10_row_47 : decode cX10_row 47 = .ok (.ireturn, 1) := by decide +kernel
theorem dX10_row_48 : decode cX10_row 48 = .ok (.aload_n 0, 1) := by decide +kernel
theorem dX10_row_49 : decode cX10_row 49 = .ok (.getfield 29, 3) := by decide +kernel
theorem dX10_row_52 : decode cX10_row 52 = .ok (.iconst 4, 1) := by decide +kernel
theorem dX10_row_53 : decode cX10_row 53 = .ok (.iload_n 1, 1) := by decide +kernel
theorem dX10_row_54 : decode cX10_row 54 = .ok (.imul, 1) := by decide +kernel
theorem dX10_row_55 : decode cX10_row 55 = .ok (.iload_n 2, 1) := by decide +kernel
theorem dX10_row_56 : decode cX10_row 56 = .ok (.iadd, 1) := by decide +kernel
theorem dX10_row_57 : decode cX10_row 57 = .ok (.iaload, 1) := by decide +kernel
theorem dX10_row_58 : decode cX10_row 58 = .ok (.istore 4, 2) := by decide +kernel
theorem dX10_row_60 : decode cX10_row 60 = .ok (.aload_n 0, 1) := by decide +kernel
theorem dX10_row_61 : decode cX10_row 61 = .ok (.getfield 29, 3) := by decide +kernel
theorem dX10_row_64 : decode cX10_row 64 = .ok (.iconst 4, 1) := by decide +kernel
theorem dX10_row_65 : decode cX10_row 65 = .ok (.iload_n 1, 1) := by decide +kernel
theorem dX10_row_66 : decode cX10_row 66 = .ok (.imul, 1) := by decide +kernel
theorem dX10_row_67 : decode cX10_row 67 = .ok (.iload_n 2, 1) := by decide +kernel
theorem dX10_row_68 : decode cX10_row 68 = .ok (.iadd, 1) := by decide +kernel
theorem dX10_row_69 : decode cX10_row 69 = .ok (.iload_n 3, 1) := by decide +kernel
theorem dX10_row_70 : decode cX10_row 70 = .ok (.iastore, 1) := by decide +kernel
theorem dX10_row_71 : decode cX10_row 71 = .ok (.iload 4, 2) := by decide +kernel
theorem dX10_row_73 : decode cX10_row 73 = .ok (.ireturn, 1) := by decide +kernel
theorem dX10_feed_0 : decode cX10_feed 0 = .ok (.aload_n 0, 1) := by decide +kernel
theorem dX10_feed_1 : decode cX10_feed 1 = .ok (.iload_n 1, 1) := by decide +kernel
theorem dX10_feed_2 : decode cX10_feed 2 = .ok (.iconst 0, 1) := by decide +kernel
theorem dX10_feed_3 : decode cX10_feed 3 = .ok (.bipush 127, 2) := by decide +kernel
theorem dX10_feed_5 : decode cX10_feed 5 = .ok (.invokevirtual 212, 3) := by decide +kernel
theorem dX10_feed_8 : decode cX10_feed 8 = .ok (.ifCond .ne 6, 3) := by decide +kernel
theorem dX10_feed_11 : decode cX10_feed 11 = .ok (.bipush (-2), 2) := by decide +kernel
theorem dX10_feed_13 : decode cX10_feed 13 = .ok (.ireturn, 1) := by decide +kernel
theorem dX10_feed_14 : decode cX10_feed 14 = .ok (.aload_n 0, 1) := by decide +kernel
theorem dX10_feed_15 : decode cX10_feed 15 = .ok (.getfield 38, 3) := by decide +kernel
theorem dX10_feed_18 : decode cX10_feed 18 = .ok (.bipush 100, 2) := by decide +kernel
theorem dX10_feed_20 : decode cX10_feed 20 = .ok (.if_icmp .ne 6, 3) := by decide +kernel
theorem dX10_feed_23 : decode cX10_feed 23 = .ok (.bipush (-4), 2) := by decide +kernel
theorem dX10_feed_25 : decode cX10_feed 25 = .ok (.ireturn, 1) := by decide +kernel
theorem dX10_feed_26 : decode cX10_feed 26 = .ok (.aload_n 0, 1) := by decide +kernel
theorem dX10_feed_27 : decode cX10_feed 27 = .ok (.getfield 47, 3) := by decide +kernel
theorem dX10_feed_30 : decode cX10_feed 30 = .ok (.aload_n 0, 1) := by decide +kernel
theorem dX10_feed_31 : decode cX10_feed 31 = .ok (.getfield 38, 3) := by decide +kernel
theorem dX10_feed_34 : decode cX10_feed 34 = .ok (.iload_n 1, 1) := by decide +kernel
theorem dX10_feed_35 : decode cX10_feed 35 = .ok (.iastore, 1) := by decide +kernel
theorem dX10_feed_36 : decode cX10_feed 36 = .ok (.aload_n 0, 1) := by decide +kernel
theorem dX10_feed_37 : decode cX10_feed 37 = .ok (.dup, 1) := by decide +kernel
theorem dX10_feed_38 : decode cX10_feed 38 = .ok (.getfield 38, 3) := by decide +kernel
theorem dX10_feed_41 : decode cX10_feed 41 = .ok (.iconst 1, 1) := by decide +kernel
theorem dX10_feed_42 : decode cX10_feed 42 = .ok (.iadd, 1) := by decide +kernel
theorem dX10_feed_43 : decode cX10_feed 43 = .ok (.putfield 38, 3) := by decide +kernel
theorem dX10_feed_46 : decode cX10_feed 46 = .ok (.aload_n 0, 1) := by decide +kernel
theorem dX10_feed_47 : decode cX10_feed 47 = .ok (.getfield 38, 3) := by decide +kernel
theorem dX10_feed_50 : decode cX10_feed 50 = .ok (.ireturn, 1) := by decide +kernel
theorem dX10_peek_0 : decode cX10_peek 0 = .ok (.aload_n 0, 1) := by decide +kernel
theorem dX10_peek_1 : decode cX10_peek 1 = .ok (.getfield 41, 3) := by decide +kernel
theorem dX10_peek_4 : decode cX10_peek 4 = .ok (.aload_n 0, 1) := by decide +kernel
theorem dX10_peek_5 : decode cX10_peek 5 = .ok (.getfield 38, 3) := by decide +kernel
theorem dX10_peek_8 : decode cX10_peek 8 = .ok (.if_icmp .ge 15, 3) := by decide +kernel
theorem dX10_peek_11 : decode cX10_peek 11 = .ok (.aload_n 0, 1) := by decide +kernel
theorem dX10_peek_12 : decode cX10_peek 12 = .ok (.getfield 47, 3) := by decide +kernel
theorem dX10_peek_15 : decode cX10_peek 15 = .ok (.aload_n 0, 1) := by decide +kernel
theorem dX10_peek_16 : decode cX10_peek 16 = .ok (.getfield 41, 3) := by decide +kernel
theorem dX10_peek_19 : decode cX10_peek 19 = .ok (.iaload, 1) := by decide +kernel
theorem dX10_peek_20 : decode cX10_peek 20 = .ok (.goto 4, 3) := by decide +kernel
theorem dX10_peek_23 : decode cX10_peek 23 = .ok (.iconst (-1), 1) := by decide +kernel
theorem dX10_peek_24 : decode cX10_peek 24 = .ok (.ireturn, 1) := by decide +kernel
theorem dX10_takes_0 : decode cX10_takes 0 = .ok (.aload_n 0, 1) := by decide +kernel
theorem dX10_takes_1 : decode cX10_takes 1 = .ok (.invokevirtual 228, 3) := by decide +kernel
theorem dX10_takes_4 : decode cX10_takes 4 = .ok (.iload_n 1, 1) := by decide +kernel
theorem dX10_takes_5 : decode cX10_takes 5 = .ok (.if_icmp .eq 5, 3) := by decide +kernel
theorem dX10_takes_8 : decode cX10_takes 8 = .ok (.iconst 0, 1) := by decide +kernel
theorem dX10_takes_9 : decode cX10_takes 9 = .ok (.ireturn, 1) := by decide +kernel
theorem dX10_takes_10 : decode cX10_takes 10 = .ok (.aload_n 0, 1) := by decide +kernel
theorem dX10_takes_11 : decode cX10_takes 11 = .ok (.dup, 1) := by decide +kernel
theorem dX10_takes_12 : decode cX10_takes 12 = .ok (.getfield 41, 3) := by decide +kernel
theorem dX10_takes_15 : decode cX10_takes 15 = .ok (.iconst 1, 1) := by decide +kernel
theorem dX10_takes_16 : decode cX10_takes 16 = .ok (.iadd, 1) := by decide +kernel
theorem dX10_takes_17 : decode cX10_takes 17 = .ok (.putfield 41, 3) := by decide +kernel
theorem dX10_takes_20 : decode cX10_takes 20 = .ok (.iconst 1, 1) := by decide +kernel
theorem dX10_takes_21 : decode cX10_takes 21 = .ok (.ireturn, 1) := by decide +kernel
theorem dX10_takesWord_0 : decode cX10_takesWord 0 = .ok (.iconst 0, 1) := by decide +kernel
theorem dX10_takesWord_1 : decode cX10_takesWord 1 = .ok (.istore_n 3, 1) := by decide +kernel
theorem dX10_takesWord_2 : decode cX10_takesWord 2 = .ok (.iload_n 3, 1) := by decide +kernel
theorem dX10_takesWord_3 : decode cX10_takesWord 3 = .ok (.iload_n 2, 1) := by decide +kernel
theorem dX10_takesWord_4 : decode cX10_takesWord 4 = .ok (.if_icmp .ge 26, 3) := by decide +kernel
theorem dX10_takesWord_7 : decode cX10_takesWord 7 = .ok (.aload_n 0, 1) := by decide +kernel
theorem dX10_takesWord_8 : decode cX10_takesWord 8 = .ok (.aload_n 0, 1) := by decide +kernel
theorem dX10_takesWord_9 : decode cX10_takesWord 9 = .ok (.getfield 80, 3) := by decide +kernel
theorem dX10_takesWord_12 : decode cX10_takesWord 12 = .ok (.iload_n 1, 1) := by decide +kernel
theorem dX10_takesWord_13 : decode cX10_takesWord 13 = .ok (.iload_n 3, 1) := by decide +kernel
theorem dX10_takesWord_14 : decode cX10_takesWord 14 = .ok (.iadd, 1) := by decide +kernel
theorem dX10_takesWord_15 : decode cX10_takesWord 15 = .ok (.iaload, 1) := by decide +kernel
theorem dX10_takesWord_16 : decode cX10_takesWord 16 = .ok (.invokevirtual 232, 3) := by decide +kernel
theorem dX10_takesWord_19 : decode cX10_takesWord 19 = .ok (.ifCond .ne 5, 3) := by decide +kernel
theorem dX10_takesWord_22 : decode cX10_takesWord 22 = .ok (.iconst 0, 1) := by decide +kernel
theorem dX10_takesWord_23 : decode cX10_takesWord 23 = .ok (.ireturn, 1) := by decide +kernel
theorem dX10_takesWord_24 : decode cX10_takesWord 24 = .ok (.iinc 3 1, 3) := by decide +kernel
theorem dX10_takesWord_27 : decode cX10_takesWord 27 = .ok (.goto (-25), 3) := by decide +kernel
theorem dX10_takesWord_30 : decode cX10_takesWord 30 = .ok (.aload_n 0, 1) := by decide +kernel
theorem dX10_takesWord_31 : decode cX10_takesWord 31 = .ok (.bipush 32, 2) := by decide +kernel
theorem dX10_takesWord_33 : decode cX10_takesWord 33 = .ok (.invokevirtual 232, 3) := by decide +kernel
theorem dX10_takesWord_36 : decode cX10_takesWord 36 = .ok (.ireturn, 1) := by decide +kernel
theorem dX10_isDigit_0 : decode cX10_isDigit 0 = .ok (.aload_n 0, 1) := by decide +kernel
theorem dX10_isDigit_1 : decode cX10_isDigit 1 = .ok (.aload_n 0, 1) := by decide +kernel
theorem dX10_isDigit_2 : decode cX10_isDigit 2 = .ok (.invokevirtual 228, 3) := by decide +kernel
theorem dX10_isDigit_5 : decode cX10_isDigit 5 = .ok (.bipush 48, 2) := by decide +kernel
theorem dX10_isDigit_7 : decode cX10_isDigit 7 = .ok (.bipush 57, 2) := by decide +kernel
theorem dX10_isDigit_9 : decode cX10_isDigit 9 = .ok (.invokevirtual 212, 3) := by decide +kernel
theorem dX10_isDigit_12 : decode cX10_isDigit 12 = .ok (.ireturn, 1) := by decide +kernel
theorem dX10_takesNumber_0 : decode cX10_takesNumber 0 = .ok (.aload_n 0, 1) := by decide +kernel
theorem dX10_takesNumber_1 : decode cX10_takesNumber 1 = .ok (.invokevirtual 235, 3) := by decide +kernel
theorem dX10_takesNumber_4 : decode cX10_takesNumber 4 = .ok (.ifCond .ne 5, 3) := by decide +kernel
theorem dX10_takesNumber_7 : decode cX10_takesNumber 7 = .ok (.iconst 0, 1) := by decide +kernel
theorem dX10_takesNumber_8 : decode cX10_takesNumber 8 = .ok (.ireturn, 1) := by decide +kernel
theorem dX10_takesNumber_9 : decode cX10_takesNumber 9 = .ok (.aload_n 0, 1) := by decide +kernel
theorem dX10_takesNumber_10 : decode cX10_takesNumber 10 = .ok (.iconst 0, 1) := by decide +kernel
theorem dX10_takesNumber_11 : decode cX10_takesNumber 11 = .ok (.putfield 44, 3) := by decide +kernel
theorem dX10_takesNumber_14 : decode cX10_takesNumber 14 = .ok (.iconst 0, 1) := by decide +kernel
theorem dX10_takesNumber_15 : decode cX10_takesNumber 15 = .ok (.istore_n 1, 1) := by decide +kernel
theorem dX10_takesNumber_16 : decode cX10_takesNumber 16 = .ok (.iload_n 1, 1) := by decide +kernel
theorem dX10_takesNumber_17 : decode cX10_takesNumber 17 = .ok (.iconst 2, 1) := by decide +kernel
theorem dX10_takesNumber_18 : decode cX10_takesNumber 18 = .ok (.if_icmp .ge 45, 3) := by decide +kernel
theorem dX10_takesNumber_21 : decode cX10_takesNumber 21 = .ok (.aload_n 0, 1) := by decide +kernel
theorem dX10_takesNumber_22 : decode cX10_takesNumber 22 = .ok (.invokevirtual 235, 3) := by decide +kernel
theorem dX10_takesNumber_25 : decode cX10_takesNumber 25 = .ok (.ifCond .eq 38, 3) := by decide +kernel
theorem dX10_takesNumber_28 : decode cX10_takesNumber 28 = .ok (.aload_n 0, 1) := by decide +kernel
theorem dX10_takesNumber_29 : decode cX10_takesNumber 29 = .ok (.bipush 10, 2) := by decide +kernel
theorem dX10_takesNumber_31 : decode cX10_takesNumber 31 = .ok (.aload_n 0, 1) := by decide +kernel
theorem dX10_takesNumber_32 : decode cX10_takesNumber 32 = .ok (.getfield 44, 3) := by decide +kernel
theorem dX10_takesNumber_35 : decode cX10_takesNumber 35 = .ok (.imul, 1) := by decide +kernel
theorem dX10_takesNumber_36 : decode cX10_takesNumber 36 = .ok (.aload_n 0, 1) := by decide +kernel
theorem dX10_takesNumber_37 : decode cX10_takesNumber 37 = .ok (.invokevirtual 228, 3) := by decide +kernel
theorem dX10_takesNumber_40 : decode cX10_takesNumber 40 = .ok (.iadd, 1) := by decide +kernel
theorem dX10_takesNumber_41 : decode cX10_takesNumber 41 = .ok (.bipush 48, 2) := by decide +kernel
theorem dX10_takesNumber_43 : decode cX10_takesNumber 43 = .ok (.isub, 1) := by decide +kernel
theorem dX10_takesNumber_44 : decode cX10_takesNumber 44 = .ok (.putfield 44, 3) := by decide +kernel
theorem dX10_takesNumber_47 : decode cX10_takesNumber 47 = .ok (.aload_n 0, 1) := by decide +kernel
theorem dX10_takesNumber_48 : decode cX10_takesNumber 48 = .ok (.dup, 1) := by decide +kernel
theorem dX10_takesNumber_49 : decode cX10_takesNumber 49 = .ok (.getfield 41, 3) := by decide +kernel
theorem dX10_takesNumber_52 : decode cX10_takesNumber 52 = .ok (.iconst 1, 1) := by decide +kernel
theorem dX10_takesNumber_53 : decode cX10_takesNumber 53 = .ok (.iadd, 1) := by decide +kernel
theorem dX10_takesNumber_54 : decode cX10_takesNumber 54 = .ok (.putfield 41, 3) := by decide +kernel
theorem dX10_takesNumber_57 : decode cX10_takesNumber 57 = .ok (.iinc 1 1, 3) := by decide +kernel
theorem dX10_takesNumber_60 : decode cX10_takesNumber 60 = .ok (.goto (-44), 3) := by decide +kernel
theorem dX10_takesNumber_63 : decode cX10_takesNumber 63 = .ok (.iconst 1, 1) := by decide +kernel
theorem dX10_takesNumber_64 : decode cX10_takesNumber 64 = .ok (.ireturn, 1) := by decide +kernel
theorem dX10_emits_0 : decode cX10_emits 0 = .ok (.aload_n 0, 1) := by decide +kernel
theorem dX10_emits_1 : decode cX10_emits 1 = .ok (.getfield 65, 3) := by decide +kernel
theorem dX10_emits_4 : decode cX10_emits 4 = .ok (.aload_n 0, 1) := by decide +kernel
theorem dX10_emits_5 : decode cX10_emits 5 = .ok (.getfield 71, 3) := by decide +kernel
theorem dX10_emits_8 : decode cX10_emits 8 = .ok (.iload_n 1, 1) := by decide +kernel
theorem dX10_emits_9 : decode cX10_emits 9 = .ok (.iastore, 1) := by decide +kernel
theorem dX10_emits_10 : decode cX10_emits 10 = .ok (.aload_n 0, 1) := by decide +kernel
theorem dX10_emits_11 : decode cX10_emits 11 = .ok (.dup, 1) := by decide +kernel
theorem dX10_emits_12 : decode cX10_emits 12 = .ok (.getfield 71, 3) := by decide +kernel
theorem dX10_emits_15 : decode cX10_emits 15 = .ok (.iconst 1, 1) := by decide +kernel
theorem dX10_emits_16 : decode cX10_emits 16 = .ok (.iadd, 1) := by decide +kernel
theorem dX10_emits_17 : decode cX10_emits 17 = .ok (.putfield 71, 3) := by decide +kernel
theorem dX10_emits_20 : decode cX10_emits 20 = .ok (.return_, 1) := by decide +kernel
theorem dX10_whole_0 : decode cX10_whole 0 = .ok (.aload_n 0, 1) := by decide +kernel
theorem dX10_whole_1 : decode cX10_whole 1 = .ok (.getfield 74, 3) := by decide +kernel
theorem dX10_whole_4 : decode cX10_whole 4 = .ok (.ifCond .le 48, 3) := by decide +kernel
theorem dX10_whole_7 : decode cX10_whole 7 = .ok (.aload_n 0, 1) := by decide +kernel
theorem dX10_whole_8 : decode cX10_whole 8 = .ok (.getfield 68, 3) := by decide +kernel
theorem dX10_whole_11 : decode cX10_whole 11 = .ok (.aload_n 0, 1) := by decide +kernel
theorem dX10_whole_12 : decode cX10_whole 12 = .ok (.getfield 74, 3) := by decide +kernel
theorem dX10_whole_15 : decode cX10_whole 15 = .ok (.iconst 1, 1) := by decide +kernel
theorem dX10_whole_16 : decode cX10_whole 16 = .ok (.isub, 1) := by decide +kernel
theorem dX10_whole_17 : decode cX10_whole 17 = .ok (.iaload, 1) := by decide +kernel
theorem dX10_whole_18 : decode cX10_whole 18 = .ok (.bipush 33, 2) := by decide +kernel
theorem dX10_whole_20 : decode cX10_whole 20 = .ok (.if_icmp .ne 32, 3) := by decide +kernel
theorem dX10_whole_23 : decode cX10_whole 23 = .ok (.aload_n 0, 1) := by decide +kernel
theorem dX10_whole_24 : decode cX10_whole 24 = .ok (.bipush (-33), 2) := by decide +kernel
theorem dX10_whole_26 : decode cX10_whole 26 = .ok (.invokevirtual 239, 3) := by decide +kernel
theorem dX10_whole_29 : decode cX10_whole 29 = .ok (.aload_n 0, 1) := by decide +kernel
theorem dX10_whole_30 : decode cX10_whole 30 = .ok (.dup, 1) := by decide +kernel
theorem dX10_whole_31 : decode cX10_whole 31 = .ok (.getfield 74, 3) := by decide +kernel
theorem dX10_whole_34 : decode cX10_whole 34 = .ok (.iconst 1, 1) := by decide +kernel
theorem dX10_whole_35 : decode cX10_whole 35 = .ok (.isub, 1) := by decide +kernel
theorem dX10_whole_36 : decode cX10_whole 36 = .ok (.putfield 74, 3) := by decide +kernel
theorem dX10_whole_39 : decode cX10_whole 39 = .ok (.aload_n 0, 1) := by decide +kernel
theorem dX10_whole_40 : decode cX10_whole 40 = .ok (.dup, 1) := by decide +kernel
theorem dX10_whole_41 : decode cX10_whole 41 = .ok (.getfield 77, 3) := by decide +kernel
theorem dX10_whole_44 : decode cX10_whole 44 = .ok (.iconst 1, 1) := by decide +kernel
theorem dX10_whole_45 : decode cX10_whole 45 = .ok (.isub, 1) := by decide +kernel
theorem dX10_whole_46 : decode cX10_whole 46 = .ok (.putfield 77, 3) := by decide +kernel
theorem dX10_whole_49 : decode cX10_whole 49 = .ok (.goto (-49), 3) := by decide +kernel
theorem dX10_whole_52 : decode cX10_whole 52 = .ok (.return_, 1) := by decide +kernel
theorem dX10_settle_0 : decode cX10_settle 0 = .ok (.aload_n 0, 1) := by decide +kernel
theorem dX10_settle_1 : decode cX10_settle 1 = .ok (.getfield 74, 3) := by decide +kernel
theorem dX10_settle_4 : decode cX10_settle 4 = .ok (.ifCond .le 68, 3) := by decide +kernel
theorem dX10_settle_7 : decode cX10_settle 7 = .ok (.aload_n 0, 1) := by decide +kernel
theorem dX10_settle_8 : decode cX10_settle 8 = .ok (.getfield 68, 3) := by decide +kernel
theorem dX10_settle_11 : decode cX10_settle 11 = .ok (.aload_n 0, 1) := by decide +kernel
theorem dX10_settle_12 : decode cX10_settle 12 = .ok (.getfield 74, 3) := by decide +kernel
theorem dX10_settle_15 : decode cX10_settle 15 = .ok (.iconst 1, 1) := by decide +kernel
theorem dX10_settle_16 : decode cX10_settle 16 = .ok (.isub, 1) := by decide +kernel
theorem dX10_settle_17 : decode cX10_settle 17 = .ok (.iaload, 1) := by decide +kernel
theorem dX10_settle_18 : decode cX10_settle 18 = .ok (.bipush 38, 2) := by decide +kernel
theorem dX10_settle_20 : decode cX10_settle 20 = .ok (.if_icmp .eq 25, 3) := by decide +kernel
theorem dX10_settle_23 : decode cX10_settle 23 = .ok (.aload_n 0, 1) := by decide +kernel
theorem dX10_settle_24 : decode cX10_settle 24 = .ok (.getfield 68, 3) := by decide +kernel
theorem dX10_settle_27 : decode cX10_settle 27 = .ok (.aload_n 0, 1) := by decide +kernel
theorem dX10_settle_28 : decode cX10_settle 28 = .ok (.getfield 74, 3) := by decide +kernel
theorem dX10_settle_31 : decode cX10_settle 31 = .ok (.iconst 1, 1) := by decide +kernel
theorem dX10_settle_32 : decode cX10_settle 32 = .ok (.isub, 1) := by decide +kernel
theorem dX10_settle_33 : decode cX10_settle 33 = .ok (.iaload, 1) := by decide +kernel
theorem dX10_settle_34 : decode cX10_settle 34 = .ok (.bipush 124, 2) := by decide +kernel
theorem dX10_settle_36 : decode cX10_settle 36 = .ok (.if_icmp .ne 36, 3) := by decide +kernel
theorem dX10_settle_39 : decode cX10_settle 39 = .ok (.iload_n 1, 1) := by decide +kernel
theorem dX10_settle_40 : decode cX10_settle 40 = .ok (.bipush 38, 2) := by decide +kernel
theorem dX10_settle_42 : decode cX10_settle 42 = .ok (.if_icmp .eq 30, 3) := by decide +kernel
theorem dX10_settle_45 : decode cX10_settle 45 = .ok (.aload_n 0, 1) := by decide +kernel
theorem dX10_settle_46 : decode cX10_settle 46 = .ok (.dup, 1) := by decide +kernel
theorem dX10_settle_47 : decode cX10_settle 47 = .ok (.getfield 74, 3) := by decide +kernel
theorem dX10_settle_50 : decode cX10_settle 50 = .ok (.iconst 1, 1) := by decide +kernel
theorem dX10_settle_51 : decode cX10_settle 51 = .ok (.isub, 1) := by decide +kernel
theorem dX10_settle_52 : decode cX10_settle 52 = .ok (.putfield 74, 3) := by decide +kernel
theorem dX10_settle_55 : decode cX10_settle 55 = .ok (.aload_n 0, 1) := by decide +kernel
theorem dX10_settle_56 : decode cX10_settle 56 = .ok (.aload_n 0, 1) := by decide +kernel
theorem dX10_settle_57 : decode cX10_settle 57 = .ok (.getfield 68, 3) := by decide +kernel
theorem dX10_settle_60 : decode cX10_settle 60 = .ok (.aload_n 0, 1) := by decide +kernel
theorem dX10_settle_61 : decode cX10_settle 61 = .ok (.getfield 74, 3) := by decide +kernel
theorem dX10_settle_64 : decode cX10_settle 64 = .ok (.iaload, 1) := by decide +kernel
theorem dX10_settle_65 : decode cX10_settle 65 = .ok (.ineg, 1) := by decide +kernel
theorem dX10_settle_66 : decode cX10_settle 66 = .ok (.invokevirtual 239, 3) := by decide +kernel
theorem dX10_settle_69 : decode cX10_settle 69 = .ok (.goto (-69), 3) := by decide +kernel
theorem dX10_settle_72 : decode cX10_settle 72 = .ok (.return_, 1) := by decide +kernel
theorem dX10_place_0 : decode cX10_place 0 = .ok (.iload_n 1, 1) := by decide +kernel
theorem dX10_place_1 : decode cX10_place 1 = .ok (.tableswitch 107 99 118 #[95, 101, 107, 107, 107, 105, 107, 107, 97, 107, 107, 107, 107, 107, 107, 107, 107, 103, 107, 99], 95) := by decide +kernel
theorem dX10_place_96 : decode cX10_place 96 = .ok (.iconst 0, 1) := by decide +kernel
theorem dX10_place_97 : decode cX10_place 97 = .ok (.ireturn, 1) := by decide +kernel
theorem dX10_place_98 : decode cX10_place 98 = .ok (.iconst 1, 1) := by decide +kernel
theorem dX10_place_99 : decode cX10_place 99 = .ok (.ireturn, 1) := by decide +kernel
theorem dX10_place_100 : decode cX10_place 100 = .ok (.iconst 2, 1) := by decide +kernel
theorem dX10_place_101 : decode cX10_place 101 = .ok (.ireturn, 1) := by decide +kernel
theorem dX10_place_102 : decode cX10_place 102 = .ok (.iconst 3, 1) := by decide +kernel
theorem dX10_place_103 : decode cX10_place 103 = .ok (.ireturn, 1) := by decide +kernel
theorem dX10_place_104 : decode cX10_place 104 = .ok (.iconst 4, 1) := by decide +kernel
theorem dX10_place_105 : decode cX10_place 105 = .ok (.ireturn, 1) := by decide +kernel
theorem dX10_place_106 : decode cX10_place 106 = .ok (.iconst 5, 1) := by decide +kernel
theorem dX10_place_107 : decode cX10_place 107 = .ok (.ireturn, 1) := by decide +kernel
theorem dX10_place_108 : decode cX10_place 108 = .ok (.iconst (-1), 1) := by decide +kernel
theorem dX10_place_109 : decode cX10_place 109 = .ok (.ireturn, 1) := by decide +kernel
theorem dX10_takesTest_0 : decode cX10_takesTest 0 = .ok (.aload_n 0, 1) := by decide +kernel
theorem dX10_takesTest_1 : decode cX10_takesTest 1 = .ok (.aload_n 0, 1) := by decide +kernel
theorem dX10_takesTest_2 : decode cX10_takesTest 2 = .ok (.invokevirtual 228, 3) := by decide +kernel
theorem dX10_takesTest_5 : decode cX10_takesTest 5 = .ok (.invokevirtual 243, 3) := by decide +kernel
theorem dX10_takesTest_8 : decode cX10_takesTest 8 = .ok (.istore_n 1, 1) := by decide +kernel
theorem dX10_takesTest_9 : decode cX10_takesTest 9 = .ok (.iload_n 1, 1) := by decide +kernel
theorem dX10_takesTest_10 : decode cX10_takesTest 10 = .ok (.ifCond .ge 5, 3) := by decide +kernel
theorem dX10_takesTest_13 : decode cX10_takesTest 13 = .ok (.iconst 0, 1) := by decide +kernel
theorem dX10_takesTest_14 : decode cX10_takesTest 14 = .ok (.ireturn, 1) := by decide +kernel
theorem dX10_takesTest_15 : decode cX10_takesTest 15 = .ok (.aload_n 0, 1) := by decide +kernel
theorem dX10_takesTest_16 : decode cX10_takesTest 16 = .ok (.dup, 1) := by decide +kernel
theorem dX10_takesTest_17 : decode cX10_takesTest 17 = .ok (.getfield 41, 3) := by decide +kernel
theorem dX10_takesTest_20 : decode cX10_takesTest 20 = .ok (.iconst 1, 1) := by decide +kernel
theorem dX10_takesTest_21 : decode cX10_takesTest 21 = .ok (.iadd, 1) := by decide +kernel
theorem dX10_takesTest_22 : decode cX10_takesTest 22 = .ok (.putfield 41, 3) := by decide +kernel
theorem dX10_takesTest_25 : decode cX10_takesTest 25 = .ok (.aload_n 0, 1) := by decide +kernel
theorem dX10_takesTest_26 : decode cX10_takesTest 26 = .ok (.invokevirtual 228, 3) := by decide +kernel
theorem dX10_takesTest_29 : decode cX10_takesTest 29 = .ok (.istore_n 2, 1) := by decide +kernel
theorem dX10_takesTest_30 : decode cX10_takesTest 30 = .ok (.aload_n 0, 1) := by decide +kernel
theorem dX10_takesTest_31 : decode cX10_takesTest 31 = .ok (.iload_n 2, 1) := by decide +kernel
theorem dX10_takesTest_32 : decode cX10_takesTest 32 = .ok (.bipush 60, 2) := by decide +kernel
theorem dX10_takesTest_34 : decode cX10_takesTest 34 = .ok (.bipush 62, 2) := by decide +kernel
theorem dX10_takesTest_36 : decode cX10_takesTest 36 = .ok (.invokevirtual 212, 3) := by decide +kernel
theorem dX10_takesTest_39 : decode cX10_takesTest 39 = .ok (.ifCond .ne 5, 3) := by decide +kernel
theorem dX10_takesTest_42 : decode cX10_takesTest 42 = .ok (.iconst 0, 1) := by decide +kernel
theorem dX10_takesTest_43 : decode cX10_takesTest 43 = .ok (.ireturn, 1) := by decide +kernel
theorem dX10_takesTest_44 : decode cX10_takesTest 44 = .ok (.aload_n 0, 1) := by decide +kernel
theorem dX10_takesTest_45 : decode cX10_takesTest 45 = .ok (.dup, 1) := by decide +kernel
theorem dX10_takesTest_46 : decode cX10_takesTest 46 = .ok (.getfield 41, 3) := by decide +kernel
theorem dX10_takesTest_49 : decode cX10_takesTest 49 = .ok (.iconst 1, 1) := by decide +kernel
theorem dX10_takesTest_50 : decode cX10_takesTest 50 = .ok (.iadd, 1) := by decide +kernel
theorem dX10_takesTest_51 : decode cX10_takesTest 51 = .ok (.putfield 41, 3) := by decide +kernel
theorem dX10_takesTest_54 : decode cX10_takesTest 54 = .ok (.aload_n 0, 1) := by decide +kernel
theorem dX10_takesTest_55 : decode cX10_takesTest 55 = .ok (.invokevirtual 247, 3) := by decide +kernel
theorem dX10_takesTest_58 : decode cX10_takesTest 58 = .ok (.ifCond .ne 5, 3) := by decide +kernel
theorem dX10_takesTest_61 : decode cX10_takesTest 61 = .ok (.iconst 0, 1) := by decide +kernel
theorem dX10_takesTest_62 : decode cX10_takesTest 62 = .ok (.ireturn, 1) := by decide +kernel
theorem dX10_takesTest_63 : decode cX10_takesTest 63 = .ok (.aload_n 0, 1) := by decide +kernel
theorem dX10_takesTest_64 : decode cX10_takesTest 64 = .ok (.sipush 1000, 3) := by decide +kernel
theorem dX10_takesTest_67 : decode cX10_takesTest 67 = .ok (.iload_n 1, 1) := by decide +kernel
theorem dX10_takesTest_68 : decode cX10_takesTest 68 = .ok (.imul, 1) := by decide +kernel
theorem dX10_takesTest_69 : decode cX10_takesTest 69 = .ok (.bipush 100, 2) := by decide +kernel
theorem dX10_takesTest_71 : decode cX10_takesTest 71 = .ok (.iload_n 2, 1) := by decide +kernel
theorem dX10_takesTest_72 : decode cX10_takesTest 72 = .ok (.bipush 60, 2) := by decide +kernel
theorem dX10_takesTest_74 : decode cX10_takesTest 74 = .ok (.isub, 1) := by decide +kernel
theorem dX10_takesTest_75 : decode cX10_takesTest 75 = .ok (.imul, 1) := by decide +kernel
theorem dX10_takesTest_76 : decode cX10_takesTest 76 = .ok (.iadd, 1) := by decide +kernel
theorem dX10_takesTest_77 : decode cX10_takesTest 77 = .ok (.aload_n 0, 1) := by decide +kernel
theorem dX10_takesTest_78 : decode cX10_takesTest 78 = .ok (.getfield 44, 3) := by decide +kernel
theorem dX10_takesTest_81 : decode cX10_takesTest 81 = .ok (.iadd, 1) := by decide +kernel
theorem dX10_takesTest_82 : decode cX10_takesTest 82 = .ok (.invokevirtual 239, 3) := by decide +kernel
theorem dX10_takesTest_85 : decode cX10_takesTest 85 = .ok (.aload_n 0, 1) := by decide +kernel
theorem dX10_takesTest_86 : decode cX10_takesTest 86 = .ok (.invokevirtual 250, 3) := by decide +kernel
theorem dX10_takesTest_89 : decode cX10_takesTest 89 = .ok (.iconst 1, 1) := by decide +kernel
theorem dX10_takesTest_90 : decode cX10_takesTest 90 = .ok (.ireturn, 1) := by decide +kernel
theorem dX10_takesE_0 : decode cX10_takesE 0 = .ok (.aload_n 0, 1) := by decide +kernel
theorem dX10_takesE_1 : decode cX10_takesE 1 = .ok (.iconst 0, 1) := by decide +kernel
theorem dX10_takesE_2 : decode cX10_takesE 2 = .ok (.putfield 74, 3) := by decide +kernel
theorem dX10_takesE_5 : decode cX10_takesE 5 = .ok (.aload_n 0, 1) := by decide +kernel
theorem dX10_takesE_6 : decode cX10_takesE 6 = .ok (.iconst 0, 1) := by decide +kernel
theorem dX10_takesE_7 : decode cX10_takesE 7 = .ok (.putfield 77, 3) := by decide +kernel
theorem dX10_takesE_10 : decode cX10_takesE 10 = .ok (.aload_n 0, 1) := by decide +kernel
theorem dX10_takesE_11 : decode cX10_takesE 11 = .ok (.getfield 59, 3) := by decide +kernel
theorem dX10_takesE_14 : decode cX10_takesE 14 = .ok (.iload_n 1, 1) := by decide +kernel
theorem dX10_takesE_15 : decode cX10_takesE 15 = .ok (.aload_n 0, 1) := by decide +kernel
theorem dX10_takesE_16 : decode cX10_takesE 16 = .ok (.getfield 71, 3) := by decide +kernel
theorem dX10_takesE_19 : decode cX10_takesE 19 = .ok (.iastore, 1) := by decide +kernel
theorem dX10_takesE_20 : decode cX10_takesE 20 = .ok (.iconst 1, 1) := by decide +kernel
theorem dX10_takesE_21 : decode cX10_takesE 21 = .ok (.istore_n 2, 1) := by decide +kernel
theorem dX10_takesE_22 : decode cX10_takesE 22 = .ok (.aload_n 0, 1) := by decide +kernel
theorem dX10_takesE_23 : decode cX10_takesE 23 = .ok (.invokevirtual 228, 3) := by decide +kernel
theorem dX10_takesE_26 : decode cX10_takesE 26 = .ok (.istore_n 3, 1) := by decide +kernel
theorem dX10_takesE_27 : decode cX10_takesE 27 = .ok (.iload_n 2, 1) := by decide +kernel
theorem dX10_takesE_28 : decode cX10_takesE 28 = .ok (.ifCond .eq 82, 3) := by decide +kernel
theorem dX10_takesE_31 : decode cX10_takesE 31 = .ok (.iload_n 3, 1) := by decide +kernel
theorem dX10_takesE_32 : decode cX10_takesE 32 = .ok (.bipush 33, 2) := by decide +kernel
theorem dX10_takesE_34 : decode cX10_takesE 34 = .ok (.if_icmp .eq 9, 3) := by decide +kernel
theorem dX10_takesE_37 : decode cX10_takesE 37 = .ok (.iload_n 3, 1) := by decide +kernel
theorem dX10_takesE_38 : decode cX10_takesE 38 = .ok (.bipush 40, 2) := by decide +kernel
theorem dX10_takesE_40 : decode cX10_takesE 40 = .ok (.if_icmp .ne 56, 3) := by decide +kernel
theorem dX10_takesE_43 : decode cX10_takesE 43 = .ok (.aload_n 0, 1) := by decide +kernel
theorem dX10_takesE_44 : decode cX10_takesE 44 = .ok (.getfield 77, 3) := by decide +kernel
theorem dX10_takesE_47 : decode cX10_takesE 47 = .ok (.iconst 4, 1) := by decide +kernel
theorem dX10_takesE_48 : decode cX10_takesE 48 = .ok (.if_icmp .ne 5, 3) := by decide +kernel
theorem dX10_takesE_51 : decode cX10_takesE 51 = .ok (.iconst 0, 1) := by decide +kernel
theorem dX10_takesE_52 : decode cX10_takesE 52 = .ok (.ireturn, 1) := by decide +kernel
theorem dX10_takesE_53 : decode cX10_takesE 53 = .ok (.aload_n 0, 1) := by decide +kernel
theorem dX10_takesE_54 : decode cX10_takesE 54 = .ok (.dup, 1) := by decide +kernel
theorem dX10_takesE_55 : decode cX10_takesE 55 = .ok (.getfield 77, 3) := by decide +kernel
theorem dX10_takesE_58 : decode cX10_takesE 58 = .ok (.iconst 1, 1) := by decide +kernel
theorem dX10_takesE_59 : decode cX10_takesE 59 = .ok (.iadd, 1) := by decide +kernel
theorem dX10_takesE_60 : decode cX10_takesE 60 = .ok (.putfield 77, 3) := by decide +kernel
theorem dX10_takesE_63 : decode cX10_takesE 63 = .ok (.aload_n 0, 1) := by decide +kernel
theorem dX10_takesE_64 : decode cX10_takesE 64 = .ok (.getfield 68, 3) := by decide +kernel
theorem dX10_takesE_67 : decode cX10_takesE 67 = .ok (.aload_n 0, 1) := by decide +kernel
theorem dX10_takesE_68 : decode cX10_takesE 68 = .ok (.getfield 74, 3) := by decide +kernel
theorem dX10_takesE_71 : decode cX10_takesE 71 = .ok (.iload_n 3, 1) := by decide +kernel
theorem dX10_takesE_72 : decode cX10_takesE 72 = .ok (.iastore, 1) := by decide +kernel
theorem dX10_takesE_73 : decode cX10_takesE 73 = .ok (.aload_n 0, 1) := by decide +kernel
theorem dX10_takesE_74 : decode cX10_takesE 74 = .ok (.dup, 1) := by decide +kernel
theorem dX10_takesE_75 : decode cX10_takesE 75 = .ok (.getfield 74, 3) := by decide +kernel
theorem dX10_takesE_78 : decode cX10_takesE 78 = .ok (.iconst 1, 1) := by decide +kernel
theorem dX10_takesE_79 : decode cX10_takesE 79 = .ok (.iadd, 1) := by decide +kernel
theorem dX10_takesE_80 : decode cX10_takesE 80 = .ok (.putfield 74, 3) := by decide +kernel
theorem dX10_takesE_83 : decode cX10_takesE 83 = .ok (.aload_n 0, 1) := by decide +kernel
theorem dX10_takesE_84 : decode cX10_takesE 84 = .ok (.dup, 1) := by decide +kernel
theorem dX10_takesE_85 : decode cX10_takesE 85 = .ok (.getfield 41, 3) := by decide +kernel
theorem dX10_takesE_88 : decode cX10_takesE 88 = .ok (.iconst 1, 1) := by decide +kernel
theorem dX10_takesE_89 : decode cX10_takesE 89 = .ok (.iadd, 1) := by decide +kernel
theorem dX10_takesE_90 : decode cX10_takesE 90 = .ok (.putfield 41, 3) := by decide +kernel
theorem dX10_takesE_93 : decode cX10_takesE 93 = .ok (.goto (-71), 3) := by decide +kernel
theorem dX10_takesE_96 : decode cX10_takesE 96 = .ok (.aload_n 0, 1) := by decide +kernel
theorem dX10_takesE_97 : decode cX10_takesE 97 = .ok (.invokevirtual 253, 3) := by decide +kernel
theorem dX10_takesE_100 : decode cX10_takesE 100 = .ok (.ifCond .eq 8, 3) := by decide +kernel
theorem dX10_takesE_103 : decode cX10_takesE 103 = .ok (.iconst 0, 1) := by decide +kernel
theorem dX10_takesE_104 : decode cX10_takesE 104 = .ok (.istore_n 2, 1) := by decide +kernel
theorem dX10_takesE_105 : decode cX10_takesE 105 = .ok (.goto (-83), 3) := by decide +kernel
theorem dX10_takesE_108 : decode cX10_takesE 108 = .ok (.iconst 0, 1) := by decide +kernel
theorem dX10_takesE_109 : decode cX10_takesE 109 = .ok (.ireturn, 1) := by decide +kernel
theorem dX10_takesE_110 : decode cX10_takesE 110 = .ok (.iload_n 3, 1) := by decide +kernel
theorem dX10_takesE_111 : decode cX10_takesE 111 = .ok (.bipush 38, 2) := by decide +kernel
theorem dX10_takesE_113 : decode cX10_takesE 113 = .ok (.if_icmp .eq 9, 3) := by decide +kernel
theorem dX10_takesE_116 : decode cX10_takesE 116 = .ok (.iload_n 3, 1) := by decide +kernel
theorem dX10_takesE_117 : decode cX10_takesE 117 = .ok (.bipush 124, 2) := by decide +kernel
theorem dX10_takesE_119 : decode cX10_takesE 119 = .ok (.if_icmp .ne 43, 3) := by decide +kernel
theorem dX10_takesE_122 : decode cX10_takesE 122 = .ok (.aload_n 0, 1) := by decide +kernel
theorem dX10_takesE_123 : decode cX10_takesE 123 = .ok (.iload_n 3, 1) := by decide +kernel
theorem dX10_takesE_124 : decode cX10_takesE 124 = .ok (.invokevirtual 256, 3) := by decide +kernel
theorem dX10_takesE_127 : decode cX10_takesE 127 = .ok (.aload_n 0, 1) := by decide +kernel
theorem dX10_takesE_128 : decode cX10_takesE 128 = .ok (.getfield 68, 3) := by decide +kernel
theorem dX10_takesE_131 : decode cX10_takesE 131 = .ok (.aload_n 0, 1) := by decide +kernel
theorem dX10_takesE_132 : decode cX10_takesE 132 = .ok (.getfield 74, 3) := by decide +kernel
theorem dX10_takesE_135 : decode cX10_takesE 135 = .ok (.iload_n 3, 1) := by decide +kernel
theorem dX10_takesE_136 : decode cX10_takesE 136 = .ok (.iastore, 1) := by decide +kernel
theorem dX10_takesE_137 : decode cX10_takesE 137 = .ok (.aload_n 0, 1) := by decide +kernel
theorem dX10_takesE_138 : decode cX10_takesE 138 = .ok (.dup, 1) := by decide +kernel
theorem dX10_takesE_139 : decode cX10_takesE 139 = .ok (.getfield 74, 3) := by decide +kernel
theorem dX10_takesE_142 : decode cX10_takesE 142 = .ok (.iconst 1, 1) := by decide +kernel
theorem dX10_takesE_143 : decode cX10_takesE 143 = .ok (.iadd, 1) := by decide +kernel
theorem dX10_takesE_144 : decode cX10_takesE 144 = .ok (.putfield 74, 3) := by decide +kernel
theorem dX10_takesE_147 : decode cX10_takesE 147 = .ok (.iconst 1, 1) := by decide +kernel
theorem dX10_takesE_148 : decode cX10_takesE 148 = .ok (.istore_n 2, 1) := by decide +kernel
theorem dX10_takesE_149 : decode cX10_takesE 149 = .ok (.aload_n 0, 1) := by decide +kernel
theorem dX10_takesE_150 : decode cX10_takesE 150 = .ok (.dup, 1) := by decide +kernel
theorem dX10_takesE_151 : decode cX10_takesE 151 = .ok (.getfield 41, 3) := by decide +kernel
theorem dX10_takesE_154 : decode cX10_takesE 154 = .ok (.iconst 1, 1) := by decide +kernel
theorem dX10_takesE_155 : decode cX10_takesE 155 = .ok (.iadd, 1) := by decide +kernel
theorem dX10_takesE_156 : decode cX10_takesE 156 = .ok (.putfield 41, 3) := by decide +kernel
theorem dX10_takesE_159 : decode cX10_takesE 159 = .ok (.goto (-137), 3) := by decide +kernel
theorem dX10_takesE_162 : decode cX10_takesE 162 = .ok (.aload_n 0, 1) := by decide +kernel
theorem dX10_takesE_163 : decode cX10_takesE 163 = .ok (.bipush 124, 2) := by decide +kernel
theorem dX10_takesE_165 : decode cX10_takesE 165 = .ok (.invokevirtual 256, 3) := by decide +kernel
theorem dX10_takesE_168 : decode cX10_takesE 168 = .ok (.aload_n 0, 1) := by decide +kernel
theorem dX10_takesE_169 : decode cX10_takesE 169 = .ok (.getfield 62, 3) := by decide +kernel
theorem dX10_takesE_172 : decode cX10_takesE 172 = .ok (.iload_n 1, 1) := by decide +kernel
theorem dX10_takesE_173 : decode cX10_takesE 173 = .ok (.aload_n 0, 1) := by decide +kernel
theorem dX10_takesE_174 : decode cX10_takesE 174 = .ok (.getfield 71, 3) := by decide +kernel
theorem dX10_takesE_177 : decode cX10_takesE 177 = .ok (.iastore, 1) := by decide +kernel
theorem dX10_takesE_178 : decode cX10_takesE 178 = .ok (.aload_n 0, 1) := by decide +kernel
theorem dX10_takesE_179 : decode cX10_takesE 179 = .ok (.getfield 74, 3) := by decide +kernel
theorem dX10_takesE_182 : decode cX10_takesE 182 = .ok (.ifCond .ne 5, 3) := by decide +kernel
theorem dX10_takesE_185 : decode cX10_takesE 185 = .ok (.iconst 1, 1) := by decide +kernel
theorem dX10_takesE_186 : decode cX10_takesE 186 = .ok (.ireturn, 1) := by decide +kernel
theorem dX10_takesE_187 : decode cX10_takesE 187 = .ok (.iload_n 3, 1) := by decide +kernel
theorem dX10_takesE_188 : decode cX10_takesE 188 = .ok (.bipush 41, 2) := by decide +kernel
theorem dX10_takesE_190 : decode cX10_takesE 190 = .ok (.if_icmp .eq 5, 3) := by decide +kernel
theorem dX10_takesE_193 : decode cX10_takesE 193 = .ok (.iconst 0, 1) := by decide +kernel
theorem dX10_takesE_194 : decode cX10_takesE 194 = .ok (.ireturn, 1) := by decide +kernel
theorem dX10_takesE_195 : decode cX10_takesE 195 = .ok (.aload_n 0, 1) := by decide +kernel
theorem dX10_takesE_196 : decode cX10_takesE 196 = .ok (.dup, 1) := by decide +kernel
theorem dX10_takesE_197 : decode cX10_takesE 197 = .ok (.getfield 74, 3) := by decide +kernel
theorem dX10_takesE_200 : decode cX10_takesE 200 = .ok (.iconst 1, 1) := by decide +kernel
theorem dX10_takesE_201 : decode cX10_takesE 201 = .ok (.isub, 1) := by decide +kernel
theorem dX10_takesE_202 : decode cX10_takesE 202 = .ok (.putfield 74, 3) := by decide +kernel
theorem dX10_takesE_205 : decode cX10_takesE 205 = .ok (.aload_n 0, 1) := by decide +kernel
theorem dX10_takesE_206 : decode cX10_takesE 206 = .ok (.dup, 1) := by decide +kernel
theorem dX10_takesE_207 : decode cX10_takesE 207 = .ok (.getfield 77, 3) := by decide +kernel
theorem dX10_takesE_210 : decode cX10_takesE 210 = .ok (.iconst 1, 1) := by decide +kernel
theorem dX10_takesE_211 : decode cX10_takesE 211 = .ok (.isub, 1) := by decide +kernel
theorem dX10_takesE_212 : decode cX10_takesE 212 = .ok (.putfield 77, 3) := by decide +kernel
theorem dX10_takesE_215 : decode cX10_takesE 215 = .ok (.aload_n 0, 1) := by decide +kernel
theorem dX10_takesE_216 : decode cX10_takesE 216 = .ok (.dup, 1) := by decide +kernel
theorem dX10_takesE_217 : decode cX10_takesE 217 = .ok (.getfield 41, 3) := by decide +kernel
theorem dX10_takesE_220 : decode cX10_takesE 220 = .ok (.iconst 1, 1) := by decide +kernel
theorem dX10_takesE_221 : decode cX10_takesE 221 = .ok (.iadd, 1) := by decide +kernel
theorem dX10_takesE_222 : decode cX10_takesE 222 = .ok (.putfield 41, 3) := by decide +kernel
theorem dX10_takesE_225 : decode cX10_takesE 225 = .ok (.aload_n 0, 1) := by decide +kernel
theorem dX10_takesE_226 : decode cX10_takesE 226 = .ok (.invokevirtual 250, 3) := by decide +kernel
theorem dX10_takesE_229 : decode cX10_takesE 229 = .ok (.goto (-207), 3) := by decide +kernel
theorem dX10_takesHead_0 : decode cX10_takesHead 0 = .ok (.aload_n 0, 1) := by decide +kernel
theorem dX10_takesHead_1 : decode cX10_takesHead 1 = .ok (.invokevirtual 228, 3) := by decide +kernel
theorem dX10_takesHead_4 : decode cX10_takesHead 4 = .ok (.lookupswitch 56 #[(104, 42), (110, 28)], 28) := by decide +kernel
theorem dX10_takesHead_32 : decode cX10_takesHead 32 = .ok (.aload_n 0, 1) := by decide +kernel
theorem dX10_takesHead_33 : decode cX10_takesHead 33 = .ok (.getfield 53, 3) := by decide +kernel
theorem dX10_takesHead_36 : decode cX10_takesHead 36 = .ok (.iload_n 1, 1) := by decide +kernel
theorem dX10_takesHead_37 : decode cX10_takesHead 37 = .ok (.iconst 0, 1) := by decide +kernel
theorem dX10_takesHead_38 : decode cX10_takesHead 38 = .ok (.iastore, 1) := by decide +kernel
theorem dX10_takesHead_39 : decode cX10_takesHead 39 = .ok (.aload_n 0, 1) := by decide +kernel
theorem dX10_takesHead_40 : decode cX10_takesHead 40 = .ok (.iconst 0, 1) := by decide +kernel
theorem dX10_takesHead_41 : decode cX10_takesHead 41 = .ok (.iconst 4, 1) := by decide +kernel
theorem dX10_takesHead_42 : decode cX10_takesHead 42 = .ok (.invokevirtual 259, 3) := by decide +kernel
theorem dX10_takesHead_45 : decode cX10_takesHead 45 = .ok (.ireturn, 1) := by decide +kernel
theorem dX10_takesHead_46 : decode cX10_takesHead 46 = .ok (.aload_n 0, 1) := by decide +kernel
theorem dX10_takesHead_47 : decode cX10_takesHead 47 = .ok (.getfield 53, 3) := by decide +kernel
theorem dX10_takesHead_50 : decode cX10_takesHead 50 = .ok (.iload_n 1, 1) := by decide +kernel
theorem dX10_takesHead_51 : decode cX10_takesHead 51 = .ok (.iconst 1, 1) := by decide +kernel
theorem dX10_takesHead_52 : decode cX10_takesHead 52 = .ok (.iastore, 1) := by decide +kernel
theorem dX10_takesHead_53 : decode cX10_takesHead 53 = .ok (.aload_n 0, 1) := by decide +kernel
theorem dX10_takesHead_54 : decode cX10_takesHead 54 = .ok (.iconst 4, 1) := by decide +kernel
theorem dX10_takesHead_55 : decode cX10_takesHead 55 = .ok (.iconst 4, 1) := by decide +kernel
theorem dX10_takesHead_56 : decode cX10_takesHead 56 = .ok (.invokevirtual 259, 3) := by decide +kernel
theorem dX10_takesHead_59 : decode cX10_takesHead 59 = .ok (.ireturn, 1) := by decide +kernel
theorem dX10_takesHead_60 : decode cX10_takesHead 60 = .ok (.aload_n 0, 1) := by decide +kernel
theorem dX10_takesHead_61 : decode cX10_takesHead 61 = .ok (.getfield 53, 3) := by decide +kernel
theorem dX10_takesHead_64 : decode cX10_takesHead 64 = .ok (.iload_n 1, 1) := by decide +kernel
theorem dX10_takesHead_65 : decode cX10_takesHead 65 = .ok (.iconst 2, 1) := by decide +kernel
theorem dX10_takesHead_66 : decode cX10_takesHead 66 = .ok (.iastore, 1) := by decide +kernel
theorem dX10_takesHead_67 : decode cX10_takesHead 67 = .ok (.aload_n 0, 1) := by decide +kernel
theorem dX10_takesHead_68 : decode cX10_takesHead 68 = .ok (.bipush 8, 2) := by decide +kernel
theorem dX10_takesHead_70 : decode cX10_takesHead 70 = .ok (.iconst 4, 1) := by decide +kernel
theorem dX10_takesHead_71 : decode cX10_takesHead 71 = .ok (.invokevirtual 259, 3) := by decide +kernel
theorem dX10_takesHead_74 : decode cX10_takesHead 74 = .ok (.ireturn, 1) := by decide +kernel
theorem dX10_takesClause_0 : decode cX10_takesClause 0 = .ok (.aload_n 0, 1) := by decide +kernel
theorem dX10_takesClause_1 : decode cX10_takesClause 1 = .ok (.iload_n 1, 1) := by decide +kernel
theorem dX10_takesClause_2 : decode cX10_takesClause 2 = .ok (.invokevirtual 262, 3) := by decide +kernel
theorem dX10_takesClause_5 : decode cX10_takesClause 5 = .ok (.ifCond .eq 10, 3) := by decide +kernel
theorem dX10_takesClause_8 : decode cX10_takesClause 8 = .ok (.aload_n 0, 1) := by decide +kernel
theorem dX10_takesClause_9 : decode cX10_takesClause 9 = .ok (.invokevirtual 247, 3) := by decide +kernel
theorem dX10_takesClause_12 : decode cX10_takesClause 12 = .ok (.ifCond .ne 5, 3) := by decide +kernel
theorem dX10_takesClause_15 : decode cX10_takesClause 15 = .ok (.iconst 0, 1) := by decide +kernel
theorem dX10_takesClause_16 : decode cX10_takesClause 16 = .ok (.ireturn, 1) := by decide +kernel
theorem dX10_takesClause_17 : decode cX10_takesClause 17 = .ok (.aload_n 0, 1) := by decide +kernel
theorem dX10_takesClause_18 : decode cX10_takesClause 18 = .ok (.getfield 56, 3) := by decide +kernel
theorem dX10_takesClause_21 : decode cX10_takesClause 21 = .ok (.iload_n 1, 1) := by decide +kernel
theorem dX10_takesClause_22 : decode cX10_takesClause 22 = .ok (.aload_n 0, 1) := by decide +kernel
theorem dX10_takesClause_23 : decode cX10_takesClause 23 = .ok (.getfield 44, 3) := by decide +kernel
theorem dX10_takesClause_26 : decode cX10_takesClause 26 = .ok (.iastore, 1) := by decide +kernel
theorem dX10_takesClause_27 : decode cX10_takesClause 27 = .ok (.aload_n 0, 1) := by decide +kernel
theorem dX10_takesClause_28 : decode cX10_takesClause 28 = .ok (.getfield 53, 3) := by decide +kernel
theorem dX10_takesClause_31 : decode cX10_takesClause 31 = .ok (.iload_n 1, 1) := by decide +kernel
theorem dX10_takesClause_32 : decode cX10_takesClause 32 = .ok (.iaload, 1) := by decide +kernel
theorem dX10_takesClause_33 : decode cX10_takesClause 33 = .ok (.iconst 2, 1) := by decide +kernel
theorem dX10_takesClause_34 : decode cX10_takesClause 34 = .ok (.if_icmp .eq 20, 3) := by decide +kernel
theorem dX10_takesClause_37 : decode cX10_takesClause 37 = .ok (.aload_n 0, 1) := by decide +kernel
theorem dX10_takesClause_38 : decode cX10_takesClause 38 = .ok (.bipush 32, 2) := by decide +kernel
theorem dX10_takesClause_40 : decode cX10_takesClause 40 = .ok (.invokevirtual 232, 3) := by decide +kernel
theorem dX10_takesClause_43 : decode cX10_takesClause 43 = .ok (.ifCond .eq 15, 3) := by decide +kernel
theorem dX10_takesClause_46 : decode cX10_takesClause 46 = .ok (.aload_n 0, 1) := by decide +kernel
theorem dX10_takesClause_47 : decode cX10_takesClause 47 = .ok (.iload_n 1, 1) := by decide +kernel
theorem dX10_takesClause_48 : decode cX10_takesClause 48 = .ok (.invokevirtual 265, 3) := by decide +kernel
theorem dX10_takesClause_51 : decode cX10_takesClause 51 = .ok (.ifCond .eq 7, 3) := by decide +kernel
theorem dX10_takesClause_54 : decode cX10_takesClause 54 = .ok (.iconst 1, 1) := by decide +kernel
theorem dX10_takesClause_55 : decode cX10_takesClause 55 = .ok (.goto 4, 3) := by decide +kernel
theorem dX10_takesClause_58 : decode cX10_takesClause 58 = .ok (.iconst 0, 1) := by decide +kernel
theorem dX10_takesClause_59 : decode cX10_takesClause 59 = .ok (.ireturn, 1) := by decide +kernel
theorem dX10_goesText_0 : decode cX10_goesText 0 = .ok (.aload_n 0, 1) := by decide +kernel
theorem dX10_goesText_1 : decode cX10_goesText 1 = .ok (.iconst 0, 1) := by decide +kernel
theorem dX10_goesText_2 : decode cX10_goesText 2 = .ok (.putfield 41, 3) := by decide +kernel
theorem dX10_goesText_5 : decode cX10_goesText 5 = .ok (.aload_n 0, 1) := by decide +kernel
theorem dX10_goesText_6 : decode cX10_goesText 6 = .ok (.bipush 100, 2) := by decide +kernel
theorem dX10_goesText_8 : decode cX10_goesText 8 = .ok (.iload_n 1, 1) := by decide +kernel
theorem dX10_goesText_9 : decode cX10_goesText 9 = .ok (.imul, 1) := by decide +kernel
theorem dX10_goesText_10 : decode cX10_goesText 10 = .ok (.putfield 71, 3) := by decide +kernel
theorem dX10_goesText_13 : decode cX10_goesText 13 = .ok (.iconst 0, 1) := by decide +kernel
theorem dX10_goesText_14 : decode cX10_goesText 14 = .ok (.istore_n 2, 1) := by decide +kernel
theorem dX10_goesText_15 : decode cX10_goesText 15 = .ok (.aload_n 0, 1) := by decide +kernel
theorem dX10_goesText_16 : decode cX10_goesText 16 = .ok (.bipush 10, 2) := by decide +kernel
theorem dX10_goesText_18 : decode cX10_goesText 18 = .ok (.iload_n 1, 1) := by decide +kernel
theorem dX10_goesText_19 : decode cX10_goesText 19 = .ok (.imul, 1) := by decide +kernel
theorem dX10_goesText_20 : decode cX10_goesText 20 = .ok (.iload_n 2, 1) := by decide +kernel
theorem dX10_goesText_21 : decode cX10_goesText 21 = .ok (.iadd, 1) := by decide +kernel
theorem dX10_goesText_22 : decode cX10_goesText 22 = .ok (.invokevirtual 268, 3) := by decide +kernel
theorem dX10_goesText_25 : decode cX10_goesText 25 = .ok (.ifCond .ne 5, 3) := by decide +kernel
theorem dX10_goesText_28 : decode cX10_goesText 28 = .ok (.iconst 0, 1) := by decide +kernel
theorem dX10_goesText_29 : decode cX10_goesText 29 = .ok (.ireturn, 1) := by decide +kernel
theorem dX10_goesText_30 : decode cX10_goesText 30 = .ok (.iinc 2 1, 3) := by decide +kernel
theorem dX10_goesText_33 : decode cX10_goesText 33 = .ok (.aload_n 0, 1) := by decide +kernel
theorem dX10_goesText_34 : decode cX10_goesText 34 = .ok (.getfield 50, 3) := by decide +kernel
theorem dX10_goesText_37 : decode cX10_goesText 37 = .ok (.iload_n 1, 1) := by decide +kernel
theorem dX10_goesText_38 : decode cX10_goesText 38 = .ok (.iload_n 2, 1) := by decide +kernel
theorem dX10_goesText_39 : decode cX10_goesText 39 = .ok (.iastore, 1) := by decide +kernel
