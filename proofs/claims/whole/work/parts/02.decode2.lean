theorem dX5_choice_34 : decode cX5_choice 34 = .ok (.iconst 1, 1) := by decide +kernel
theorem dX5_choice_35 : decode cX5_choice 35 = .ok (.putfield 23, 3) := by decide +kernel
theorem dX5_choice_38 : decode cX5_choice 38 = .ok (.iconst 0, 1) := by decide +kernel
theorem dX5_choice_39 : decode cX5_choice 39 = .ok (.ireturn, 1) := by decide +kernel
theorem dX5_choice_40 : decode cX5_choice 40 = .ok (.aload_n 0, 1) := by decide +kernel
theorem dX5_choice_41 : decode cX5_choice 41 = .ok (.invokevirtual 36, 3) := by decide +kernel
theorem dX5_choice_44 : decode cX5_choice 44 = .ok (.iload_n 2, 1) := by decide +kernel
theorem dX5_choice_45 : decode cX5_choice 45 = .ok (.ireturn, 1) := by decide +kernel
theorem dX6_init_0 : decode cX6_init 0 = .ok (.aload_n 0, 1) := by decide +kernel
theorem dX6_init_1 : decode cX6_init 1 = .ok (.invokespecial 3, 3) := by decide +kernel
theorem dX6_init_4 : decode cX6_init 4 = .ok (.aload_n 0, 1) := by decide +kernel
theorem dX6_init_5 : decode cX6_init 5 = .ok (.iconst 0, 1) := by decide +kernel
theorem dX6_init_6 : decode cX6_init 6 = .ok (.putfield 9, 3) := by decide +kernel
theorem dX6_init_9 : decode cX6_init 9 = .ok (.aload_n 0, 1) := by decide +kernel
theorem dX6_init_10 : decode cX6_init 10 = .ok (.iload_n 1, 1) := by decide +kernel
theorem dX6_init_11 : decode cX6_init 11 = .ok (.putfield 15, 3) := by decide +kernel
theorem dX6_init_14 : decode cX6_init 14 = .ok (.aload_n 0, 1) := by decide +kernel
theorem dX6_init_15 : decode cX6_init 15 = .ok (.iload_n 1, 1) := by decide +kernel
theorem dX6_init_16 : decode cX6_init 16 = .ok (.iconst 3, 1) := by decide +kernel
theorem dX6_init_17 : decode cX6_init 17 = .ok (.imul, 1) := by decide +kernel
theorem dX6_init_18 : decode cX6_init 18 = .ok (.newarray .int, 2) := by decide +kernel
theorem dX6_init_20 : decode cX6_init 20 = .ok (.putfield 18, 3) := by decide +kernel
theorem dX6_init_23 : decode cX6_init 23 = .ok (.return_, 1) := by decide +kernel
theorem dX6_empty_0 : decode cX6_empty 0 = .ok (.aload_n 0, 1) := by decide +kernel
theorem dX6_empty_1 : decode cX6_empty 1 = .ok (.iconst 0, 1) := by decide +kernel
theorem dX6_empty_2 : decode cX6_empty 2 = .ok (.putfield 9, 3) := by decide +kernel
theorem dX6_empty_5 : decode cX6_empty 5 = .ok (.iconst 0, 1) := by decide +kernel
theorem dX6_empty_6 : decode cX6_empty 6 = .ok (.ireturn, 1) := by decide +kernel
theorem dX6_put_0 : decode cX6_put 0 = .ok (.aload_n 0, 1) := by decide +kernel
theorem dX6_put_1 : decode cX6_put 1 = .ok (.getfield 9, 3) := by decide +kernel
theorem dX6_put_4 : decode cX6_put 4 = .ok (.aload_n 0, 1) := by decide +kernel
theorem dX6_put_5 : decode cX6_put 5 = .ok (.getfield 15, 3) := by decide +kernel
theorem dX6_put_8 : decode cX6_put 8 = .ok (.if_icmp .lt 6, 3) := by decide +kernel
theorem dX6_put_11 : decode cX6_put 11 = .ok (.bipush (-4), 2) := by decide +kernel
theorem dX6_put_13 : decode cX6_put 13 = .ok (.ireturn, 1) := by decide +kernel
theorem dX6_put_14 : decode cX6_put 14 = .ok (.aload_n 0, 1) := by decide +kernel
theorem dX6_put_15 : decode cX6_put 15 = .ok (.getfield 18, 3) := by decide +kernel
theorem dX6_put_18 : decode cX6_put 18 = .ok (.aload_n 0, 1) := by decide +kernel
theorem dX6_put_19 : decode cX6_put 19 = .ok (.getfield 9, 3) := by decide +kernel
theorem dX6_put_22 : decode cX6_put 22 = .ok (.iconst 3, 1) := by decide +kernel
theorem dX6_put_23 : decode cX6_put 23 = .ok (.imul, 1) := by decide +kernel
theorem dX6_put_24 : decode cX6_put 24 = .ok (.iload_n 1, 1) := by decide +kernel
theorem dX6_put_25 : decode cX6_put 25 = .ok (.iastore, 1) := by decide +kernel
theorem dX6_put_26 : decode cX6_put 26 = .ok (.aload_n 0, 1) := by decide +kernel
theorem dX6_put_27 : decode cX6_put 27 = .ok (.getfield 18, 3) := by decide +kernel
theorem dX6_put_30 : decode cX6_put 30 = .ok (.aload_n 0, 1) := by decide +kernel
theorem dX6_put_31 : decode cX6_put 31 = .ok (.getfield 9, 3) := by decide +kernel
theorem dX6_put_34 : decode cX6_put 34 = .ok (.iconst 3, 1) := by decide +kernel
theorem dX6_put_35 : decode cX6_put 35 = .ok (.imul, 1) := by decide +kernel
theorem dX6_put_36 : decode cX6_put 36 = .ok (.iconst 1, 1) := by decide +kernel
theorem dX6_put_37 : decode cX6_put 37 = .ok (.iadd, 1) := by decide +kernel
theorem dX6_put_38 : decode cX6_put 38 = .ok (.iload_n 2, 1) := by decide +kernel
theorem dX6_put_39 : decode cX6_put 39 = .ok (.iastore, 1) := by decide +kernel
theorem dX6_put_40 : decode cX6_put 40 = .ok (.aload_n 0, 1) := by decide +kernel
theorem dX6_put_41 : decode cX6_put 41 = .ok (.getfield 18, 3) := by decide +kernel
theorem dX6_put_44 : decode cX6_put 44 = .ok (.aload_n 0, 1) := by decide +kernel
theorem dX6_put_45 : decode cX6_put 45 = .ok (.getfield 9, 3) := by decide +kernel
theorem dX6_put_48 : decode cX6_put 48 = .ok (.iconst 3, 1) := by decide +kernel
theorem dX6_put_49 : decode cX6_put 49 = .ok (.imul, 1) := by decide +kernel
theorem dX6_put_50 : decode cX6_put 50 = .ok (.iconst 2, 1) := by decide +kernel
theorem dX6_put_51 : decode cX6_put 51 = .ok (.iadd, 1) := by decide +kernel
theorem dX6_put_52 : decode cX6_put 52 = .ok (.iload_n 3, 1) := by decide +kernel
theorem dX6_put_53 : decode cX6_put 53 = .ok (.iastore, 1) := by decide +kernel
theorem dX6_put_54 : decode cX6_put 54 = .ok (.aload_n 0, 1) := by decide +kernel
theorem dX6_put_55 : decode cX6_put 55 = .ok (.dup, 1) := by decide +kernel
theorem dX6_put_56 : decode cX6_put 56 = .ok (.getfield 9, 3) := by decide +kernel
theorem dX6_put_59 : decode cX6_put 59 = .ok (.iconst 1, 1) := by decide +kernel
theorem dX6_put_60 : decode cX6_put 60 = .ok (.iadd, 1) := by decide +kernel
theorem dX6_put_61 : decode cX6_put 61 = .ok (.putfield 9, 3) := by decide +kernel
theorem dX6_put_64 : decode cX6_put 64 = .ok (.aload_n 0, 1) := by decide +kernel
theorem dX6_put_65 : decode cX6_put 65 = .ok (.getfield 9, 3) := by decide +kernel
theorem dX6_put_68 : decode cX6_put 68 = .ok (.ireturn, 1) := by decide +kernel
theorem dX6_cell_0 : decode cX6_cell 0 = .ok (.aload_n 0, 1) := by decide +kernel
theorem dX6_cell_1 : decode cX6_cell 1 = .ok (.getfield 18, 3) := by decide +kernel
theorem dX6_cell_4 : decode cX6_cell 4 = .ok (.iload_n 1, 1) := by decide +kernel
theorem dX6_cell_5 : decode cX6_cell 5 = .ok (.iconst 3, 1) := by decide +kernel
theorem dX6_cell_6 : decode cX6_cell 6 = .ok (.imul, 1) := by decide +kernel
theorem dX6_cell_7 : decode cX6_cell 7 = .ok (.iload_n 2, 1) := by decide +kernel
theorem dX6_cell_8 : decode cX6_cell 8 = .ok (.iadd, 1) := by decide +kernel
theorem dX6_cell_9 : decode cX6_cell 9 = .ok (.iaload, 1) := by decide +kernel
theorem dX6_cell_10 : decode cX6_cell 10 = .ok (.ireturn, 1) := by decide +kernel
theorem dX6_copyFrom_0 : decode cX6_copyFrom 0 = .ok (.aload_n 1, 1) := by decide +kernel
theorem dX6_copyFrom_1 : decode cX6_copyFrom 1 = .ok (.getfield 18, 3) := by decide +kernel
theorem dX6_copyFrom_4 : decode cX6_copyFrom 4 = .ok (.iconst 0, 1) := by decide +kernel
theorem dX6_copyFrom_5 : decode cX6_copyFrom 5 = .ok (.aload_n 0, 1) := by decide +kernel
theorem dX6_copyFrom_6 : decode cX6_copyFrom 6 = .ok (.getfield 18, 3) := by decide +kernel
theorem dX6_copyFrom_9 : decode cX6_copyFrom 9 = .ok (.iconst 0, 1) := by decide +kernel
theorem dX6_copyFrom_10 : decode cX6_copyFrom 10 = .ok (.aload_n 0, 1) := by decide +kernel
theorem dX6_copyFrom_11 : decode cX6_copyFrom 11 = .ok (.getfield 18, 3) := by decide +kernel
theorem dX6_copyFrom_14 : decode cX6_copyFrom 14 = .ok (.arraylength, 1) := by decide +kernel
theorem dX6_copyFrom_15 : decode cX6_copyFrom 15 = .ok (.invokestatic 22, 3) := by decide +kernel
theorem dX6_copyFrom_18 : decode cX6_copyFrom 18 = .ok (.aload_n 0, 1) := by decide +kernel
theorem dX6_copyFrom_19 : decode cX6_copyFrom 19 = .ok (.aload_n 1, 1) := by decide +kernel
theorem dX6_copyFrom_20 : decode cX6_copyFrom 20 = .ok (.getfield 9, 3) := by decide +kernel
theorem dX6_copyFrom_23 : decode cX6_copyFrom 23 = .ok (.putfield 9, 3) := by decide +kernel
theorem dX6_copyFrom_26 : decode cX6_copyFrom 26 = .ok (.return_, 1) := by decide +kernel
theorem dX7_init_0 : decode cX7_init 0 = .ok (.aload_n 0, 1) := by decide +kernel
theorem dX7_init_1 : decode cX7_init 1 = .ok (.invokespecial 5, 3) := by decide +kernel
theorem dX7_init_4 : decode cX7_init 4 = .ok (.aload_n 0, 1) := by decide +kernel
theorem dX7_init_5 : decode cX7_init 5 = .ok (.iconst 0, 1) := by decide +kernel
theorem dX7_init_6 : decode cX7_init 6 = .ok (.putfield 11, 3) := by decide +kernel
theorem dX7_init_9 : decode cX7_init 9 = .ok (.aload_n 0, 1) := by decide +kernel
theorem dX7_init_10 : decode cX7_init 10 = .ok (.bipush 6, 2) := by decide +kernel
theorem dX7_init_12 : decode cX7_init 12 = .ok (.newarray .int, 2) := by decide +kernel
theorem dX7_init_14 : decode cX7_init 14 = .ok (.putfield 15, 3) := by decide +kernel
theorem dX7_init_17 : decode cX7_init 17 = .ok (.aload_n 0, 1) := by decide +kernel
theorem dX7_init_18 : decode cX7_init 18 = .ok (.bipush 6, 2) := by decide +kernel
theorem dX7_init_20 : decode cX7_init 20 = .ok (.newarray .int, 2) := by decide +kernel
theorem dX7_init_22 : decode cX7_init 22 = .ok (.putfield 19, 3) := by decide +kernel
theorem dX7_init_25 : decode cX7_init 25 = .ok (.aload_n 0, 1) := by decide +kernel
theorem dX7_init_26 : decode cX7_init 26 = .ok (.bipush 24, 2) := by decide +kernel
theorem dX7_init_28 : decode cX7_init 28 = .ok (.newarray .int, 2) := by decide +kernel
theorem dX7_init_30 : decode cX7_init 30 = .ok (.putfield 22, 3) := by decide +kernel
theorem dX7_init_33 : decode cX7_init 33 = .ok (.aload_n 0, 1) := by decide +kernel
theorem dX7_init_34 : decode cX7_init 34 = .ok (.sipush 606, 3) := by decide +kernel
theorem dX7_init_37 : decode cX7_init 37 = .ok (.newarray .int, 2) := by decide +kernel
theorem dX7_init_39 : decode cX7_init 39 = .ok (.putfield 25, 3) := by decide +kernel
theorem dX7_init_42 : decode cX7_init 42 = .ok (.aload_n 0, 1) := by decide +kernel
theorem dX7_init_43 : decode cX7_init 43 = .ok (.new 28, 3) := by decide +kernel
theorem dX7_init_46 : decode cX7_init 46 = .ok (.dup, 1) := by decide +kernel
theorem dX7_init_47 : decode cX7_init 47 = .ok (.invokespecial 30, 3) := by decide +kernel
theorem dX7_init_50 : decode cX7_init 50 = .ok (.putfield 31, 3) := by decide +kernel
theorem dX7_init_53 : decode cX7_init 53 = .ok (.aload_n 0, 1) := by decide +kernel
theorem dX7_init_54 : decode cX7_init 54 = .ok (.new 35, 3) := by decide +kernel
theorem dX7_init_57 : decode cX7_init 57 = .ok (.dup, 1) := by decide +kernel
theorem dX7_init_58 : decode cX7_init 58 = .ok (.iconst 5, 1) := by decide +kernel
theorem dX7_init_59 : decode cX7_init 59 = .ok (.invokespecial 37, 3) := by decide +kernel
theorem dX7_init_62 : decode cX7_init 62 = .ok (.putfield 40, 3) := by decide +kernel
theorem dX7_init_65 : decode cX7_init 65 = .ok (.aload_n 0, 1) := by decide +kernel
theorem dX7_init_66 : decode cX7_init 66 = .ok (.new 35, 3) := by decide +kernel
theorem dX7_init_69 : decode cX7_init 69 = .ok (.dup, 1) := by decide +kernel
theorem dX7_init_70 : decode cX7_init 70 = .ok (.bipush 10, 2) := by decide +kernel
theorem dX7_init_72 : decode cX7_init 72 = .ok (.invokespecial 37, 3) := by decide +kernel
theorem dX7_init_75 : decode cX7_init 75 = .ok (.putfield 44, 3) := by decide +kernel
theorem dX7_init_78 : decode cX7_init 78 = .ok (.aload_n 0, 1) := by decide +kernel
theorem dX7_init_79 : decode cX7_init 79 = .ok (.new 35, 3) := by decide +kernel
theorem dX7_init_82 : decode cX7_init 82 = .ok (.dup, 1) := by decide +kernel
theorem dX7_init_83 : decode cX7_init 83 = .ok (.bipush 8, 2) := by decide +kernel
theorem dX7_init_85 : decode cX7_init 85 = .ok (.invokespecial 37, 3) := by decide +kernel
theorem dX7_init_88 : decode cX7_init 88 = .ok (.putfield 47, 3) := by decide +kernel
theorem dX7_init_91 : decode cX7_init 91 = .ok (.aload_n 0, 1) := by decide +kernel
theorem dX7_init_92 : decode cX7_init 92 = .ok (.bipush 6, 2) := by decide +kernel
theorem dX7_init_94 : decode cX7_init 94 = .ok (.newarray .int, 2) := by decide +kernel
theorem dX7_init_96 : decode cX7_init 96 = .ok (.putfield 50, 3) := by decide +kernel
theorem dX7_init_99 : decode cX7_init 99 = .ok (.aload_n 0, 1) := by decide +kernel
theorem dX7_init_100 : decode cX7_init 100 = .ok (.aconst_null, 1) := by decide +kernel
theorem dX7_init_101 : decode cX7_init 101 = .ok (.putfield 53, 3) := by decide +kernel
theorem dX7_init_104 : decode cX7_init 104 = .ok (.return_, 1) := by decide +kernel
theorem dX7_copyFrom_0 : decode cX7_copyFrom 0 = .ok (.aload_n 0, 1) := by decide +kernel
theorem dX7_copyFrom_1 : decode cX7_copyFrom 1 = .ok (.aload_n 1, 1) := by decide +kernel
theorem dX7_copyFrom_2 : decode cX7_copyFrom 2 = .ok (.getfield 11, 3) := by decide +kernel
theorem dX7_copyFrom_5 : decode cX7_copyFrom 5 = .ok (.putfield 11, 3) := by decide +kernel
theorem dX7_copyFrom_8 : decode cX7_copyFrom 8 = .ok (.aload_n 1, 1) := by decide +kernel
theorem dX7_copyFrom_9 : decode cX7_copyFrom 9 = .ok (.getfield 15, 3) := by decide +kernel
theorem dX7_copyFrom_12 : decode cX7_copyFrom 12 = .ok (.iconst 0, 1) := by decide +kernel
theorem dX7_copyFrom_13 : decode cX7_copyFrom 13 = .ok (.aload_n 0, 1) := by decide +kernel
theorem dX7_copyFrom_14 : decode cX7_copyFrom 14 = .ok (.getfield 15, 3) := by decide +kernel
theorem dX7_copyFrom_17 : decode cX7_copyFrom 17 = .ok (.iconst 0, 1) := by decide +kernel
theorem dX7_copyFrom_18 : decode cX7_copyFrom 18 = .ok (.bipush 6, 2) := by decide +kernel
theorem dX7_copyFrom_20 : decode cX7_copyFrom 20 = .ok (.invokestatic 57, 3) := by decide +kernel
theorem dX7_copyFrom_23 : decode cX7_copyFrom 23 = .ok (.aload_n 1, 1) := by decide +kernel
theorem dX7_copyFrom_24 : decode cX7_copyFrom 24 = .ok (.getfield 19, 3) := by decide +kernel
theorem dX7_copyFrom_27 : decode cX7_copyFrom 27 = .ok (.iconst 0, 1) := by decide +kernel
theorem dX7_copyFrom_28 : decode cX7_copyFrom 28 = .ok (.aload_n 0, 1) := by decide +kernel
theorem dX7_copyFrom_29 : decode cX7_copyFrom 29 = .ok (.getfield 19, 3) := by decide +kernel
theorem dX7_copyFrom_32 : decode cX7_copyFrom 32 = .ok (.iconst 0, 1) := by decide +kernel
theorem dX7_copyFrom_33 : decode cX7_copyFrom 33 = .ok (.bipush 6, 2) := by decide +kernel
theorem dX7_copyFrom_35 : decode cX7_copyFrom 35 = .ok (.invokestatic 57, 3) := by decide +kernel
theorem dX7_copyFrom_38 : decode cX7_copyFrom 38 = .ok (.aload_n 1, 1) := by decide +kernel
theorem dX7_copyFrom_39 : decode cX7_copyFrom 39 = .ok (.getfield 22, 3) := by decide +kernel
theorem dX7_copyFrom_42 : decode cX7_copyFrom 42 = .ok (.iconst 0, 1) := by decide +kernel
theorem dX7_copyFrom_43 : decode cX7_copyFrom 43 = .ok (.aload_n 0, 1) := by decide +kernel
theorem dX7_copyFrom_44 : decode cX7_copyFrom 44 = .ok (.getfield 22, 3) := by decide +kernel
theorem dX7_copyFrom_47 : decode cX7_copyFrom 47 = .ok (.iconst 0, 1) := by decide +kernel
theorem dX7_copyFrom_48 : decode cX7_copyFrom 48 = .ok (.aload_n 0, 1) := by decide +kernel
theorem dX7_copyFrom_49 : decode cX7_copyFrom 49 = .ok (.getfield 22, 3) := by decide +kernel
theorem dX7_copyFrom_52 : decode cX7_copyFrom 52 = .ok (.arraylength, 1) := by decide +kernel
theorem dX7_copyFrom_53 : decode cX7_copyFrom 53 = .ok (.invokestatic 57, 3) := by decide +kernel
theorem dX7_copyFrom_56 : decode cX7_copyFrom 56 = .ok (.aload_n 1, 1) := by decide +kernel
theorem dX7_copyFrom_57 : decode cX7_copyFrom 57 = .ok (.getfield 25, 3) := by decide +kernel
theorem dX7_copyFrom_60 : decode cX7_copyFrom 60 = .ok (.iconst 0, 1) := by decide +kernel
theorem dX7_copyFrom_61 : decode cX7_copyFrom 61 = .ok (.aload_n 0, 1) := by decide +kernel
theorem dX7_copyFrom_62 : decode cX7_copyFrom 62 = .ok (.getfield 25, 3) := by decide +kernel
theorem dX7_copyFrom_65 : decode cX7_copyFrom 65 = .ok (.iconst 0, 1) := by decide +kernel
theorem dX7_copyFrom_66 : decode cX7_copyFrom 66 = .ok (.aload_n 0, 1) := by decide +kernel
theorem dX7_copyFrom_67 : decode cX7_copyFrom 67 = .ok (.getfield 25, 3) := by decide +kernel
theorem dX7_copyFrom_70 : decode cX7_copyFrom 70 = .ok (.arraylength, 1) := by decide +kernel
theorem dX7_copyFrom_71 : decode cX7_copyFrom 71 = .ok (.invokestatic 57, 3) := by decide +kernel
theorem dX7_copyFrom_74 : decode cX7_copyFrom 74 = .ok (.aload_n 0, 1) := by decide +kernel
theorem dX7_copyFrom_75 : decode cX7_copyFrom 75 = .ok (.getfield 31, 3) := by decide +kernel
theorem dX7_copyFrom_78 : decode cX7_copyFrom 78 = .ok (.aload_n 1, 1) := by decide +kernel
theorem dX7_copyFrom_79 : decode cX7_copyFrom 79 = .ok (.getfield 31, 3) := by decide +kernel
theorem dX7_copyFrom_82 : decode cX7_copyFrom 82 = .ok (.invokevirtual 63, 3) := by decide +kernel
theorem dX7_copyFrom_85 : decode cX7_copyFrom 85 = .ok (.aload_n 0, 1) := by decide +kernel
theorem dX7_copyFrom_86 : decode cX7_copyFrom 86 = .ok (.getfield 40, 3) := by decide +kernel
theorem dX7_copyFrom_89 : decode cX7_copyFrom 89 = .ok (.aload_n 1, 1) := by decide +kernel
theorem dX7_copyFrom_90 : decode cX7_copyFrom 90 = .ok (.getfield 40, 3) := by decide +kernel
theorem dX7_copyFrom_93 : decode cX7_copyFrom 93 = .ok (.invokevirtual 67, 3) := by decide +kernel
theorem dX7_copyFrom_96 : decode cX7_copyFrom 96 = .ok (.aload_n 0, 1) := by decide +kernel
theorem dX7_copyFrom_97 : decode cX7_copyFrom 97 = .ok (.getfield 44, 3) := by decide +kernel
theorem dX7_copyFrom_100 : decode cX7_copyFrom 100 = .ok (.aload_n 1, 1) := by decide +kernel
theorem dX7_copyFrom_101 : decode cX7_copyFrom 101 = .ok (.getfield 44, 3) := by decide +kernel
theorem dX7_copyFrom_104 : decode cX7_copyFrom 104 = .ok (.invokevirtual 67, 3) := by decide +kernel
theorem dX7_copyFrom_107 : decode cX7_copyFrom 107 = .ok (.aload_n 0, 1) := by decide +kernel
theorem dX7_copyFrom_108 : decode cX7_copyFrom 108 = .ok (.getfield 47, 3) := by decide +kernel
theorem dX7_copyFrom_111 : decode cX7_copyFrom 111 = .ok (.aload_n 1, 1) := by decide +kernel
theorem dX7_copyFrom_112 : decode cX7_copyFrom 112 = .ok (.getfield 47, 3) := by decide +kernel
theorem dX7_copyFrom_115 : decode cX7_copyFrom 115 = .ok (.invokevirtual 67, 3) := by decide +kernel
theorem dX7_copyFrom_118 : decode cX7_copyFrom 118 = .ok (.aload_n 0, 1) := by decide +kernel
theorem dX7_copyFrom_119 : decode cX7_copyFrom 119 = .ok (.aload_n 1, 1) := by decide +kernel
theorem dX7_copyFrom_120 : decode cX7_copyFrom 120 = .ok (.getfield 53, 3) := by decide +kernel
theorem dX7_copyFrom_123 : decode cX7_copyFrom 123 = .ok (.putfield 53, 3) := by decide +kernel
theorem dX7_copyFrom_126 : decode cX7_copyFrom 126 = .ok (.return_, 1) := by decide +kernel
theorem dX7_enter_0 : decode cX7_enter 0 = .ok (.aload_n 0, 1) := by decide +kernel
theorem dX7_enter_1 : decode cX7_enter 1 = .ok (.getfield 11, 3) := by decide +kernel
theorem dX7_enter_4 : decode cX7_enter 4 = .ok (.istore 4, 2) := by decide +kernel
theorem dX7_enter_6 : decode cX7_enter 6 = .ok (.aload_n 0, 1) := by decide +kernel
theorem dX7_enter_7 : decode cX7_enter 7 = .ok (.dup, 1) := by decide +kernel
theorem dX7_enter_8 : decode cX7_enter 8 = .ok (.getfield 11, 3) := by decide +kernel
theorem dX7_enter_11 : decode cX7_enter 11 = .ok (.iconst 1, 1) := by decide +kernel
theorem dX7_enter_12 : decode cX7_enter 12 = .ok (.iadd, 1) := by decide +kernel
theorem dX7_enter_13 : decode cX7_enter 13 = .ok (.putfield 11, 3) := by decide +kernel
theorem dX7_enter_16 : decode cX7_enter 16 = .ok (.aload_n 0, 1) := by decide +kernel
theorem dX7_enter_17 : decode cX7_enter 17 = .ok (.getfield 15, 3) := by decide +kernel
theorem dX7_enter_20 : decode cX7_enter 20 = .ok (.iload 4, 2) := by decide +kernel
theorem dX7_enter_22 : decode cX7_enter 22 = .ok (.iload_n 1, 1) := by decide +kernel
theorem dX7_enter_23 : decode cX7_enter 23 = .ok (.iastore, 1) := by decide +kernel
theorem dX7_enter_24 : decode cX7_enter 24 = .ok (.aload_n 0, 1) := by decide +kernel
theorem dX7_enter_25 : decode cX7_enter 25 = .ok (.getfield 19, 3) := by decide +kernel
theorem dX7_enter_28 : decode cX7_enter 28 = .ok (.iload 4, 2) := by decide +kernel
theorem dX7_enter_30 : decode cX7_enter 30 = .ok (.iload_n 2, 1) := by decide +kernel
theorem dX7_enter_31 : decode cX7_enter 31 = .ok (.iastore, 1) := by decide +kernel
theorem dX7_enter_32 : decode cX7_enter 32 = .ok (.aload_n 0, 1) := by decide +kernel
theorem dX7_enter_33 : decode cX7_enter 33 = .ok (.getfield 31, 3) := by decide +kernel
theorem dX7_enter_36 : decode cX7_enter 36 = .ok (.getfield 70, 3) := by decide +kernel
theorem dX7_enter_39 : decode cX7_enter 39 = .ok (.iload 4, 2) := by decide +kernel
theorem dX7_enter_41 : decode cX7_enter 41 = .ok (.aload_n 0, 1) := by decide +kernel
theorem dX7_enter_42 : decode cX7_enter 42 = .ok (.getfield 31, 3) := by decide +kernel
theorem dX7_enter_45 : decode cX7_enter 45 = .ok (.getfield 73, 3) := by decide +kernel
theorem dX7_enter_48 : decode cX7_enter 48 = .ok (.iload_n 3, 1) := by decide +kernel
theorem dX7_enter_49 : decode cX7_enter 49 = .ok (.isub, 1) := by decide +kernel
theorem dX7_enter_50 : decode cX7_enter 50 = .ok (.iastore, 1) := by decide +kernel
theorem dX7_enter_51 : decode cX7_enter 51 = .ok (.aload_n 0, 1) := by decide +kernel
theorem dX7_enter_52 : decode cX7_enter 52 = .ok (.getfield 31, 3) := by decide +kernel
theorem dX7_enter_55 : decode cX7_enter 55 = .ok (.getfield 76, 3) := by decide +kernel
theorem dX7_enter_58 : decode cX7_enter 58 = .ok (.iload 4, 2) := by decide +kernel
theorem dX7_enter_60 : decode cX7_enter 60 = .ok (.iconst 0, 1) := by decide +kernel
theorem dX7_enter_61 : decode cX7_enter 61 = .ok (.bastore, 1) := by decide +kernel
theorem dX7_enter_62 : decode cX7_enter 62 = .ok (.iconst 0, 1) := by decide +kernel
theorem dX7_enter_63 : decode cX7_enter 63 = .ok (.istore 5, 2) := by decide +kernel
theorem dX7_enter_65 : decode cX7_enter 65 = .ok (.iload 5, 2) := by decide +kernel
theorem dX7_enter_67 : decode cX7_enter 67 = .ok (.iconst 4, 1) := by decide +kernel
theorem dX7_enter_68 : decode cX7_enter 68 = .ok (.if_icmp .ge 22, 3) := by decide +kernel
theorem dX7_enter_71 : decode cX7_enter 71 = .ok (.aload_n 0, 1) := by decide +kernel
theorem dX7_enter_72 : decode cX7_enter 72 = .ok (.getfield 22, 3) := by decide +kernel
theorem dX7_enter_75 : decode cX7_enter 75 = .ok (.iload 4, 2) := by decide +kernel
theorem dX7_enter_77 : decode cX7_enter 77 = .ok (.iconst 4, 1) := by decide +kernel
theorem dX7_enter_78 : decode cX7_enter 78 = .ok (.imul, 1) := by decide +kernel
theorem dX7_enter_79 : decode cX7_enter 79 = .ok (.iload 5, 2) := by decide +kernel
theorem dX7_enter_81 : decode cX7_enter 81 = .ok (.iadd, 1) := by decide +kernel
theorem dX7_enter_82 : decode cX7_enter 82 = .ok (.iconst 0, 1) := by decide +kernel
theorem dX7_enter_83 : decode cX7_enter 83 = .ok (.iastore, 1) := by decide +kernel
theorem dX7_enter_84 : decode cX7_enter 84 = .ok (.iinc 5 1, 3) := by decide +kernel
theorem dX7_enter_87 : decode cX7_enter 87 = .ok (.goto (-22), 3) := by decide +kernel
theorem dX7_enter_90 : decode cX7_enter 90 = .ok (.aload_n 0, 1) := by decide +kernel
theorem dX7_enter_91 : decode cX7_enter 91 = .ok (.iload 4, 2) := by decide +kernel
theorem dX7_enter_93 : decode cX7_enter 93 = .ok (.invokevirtual 80, 3) := by decide +kernel
theorem dX7_enter_96 : decode cX7_enter 96 = .ok (.iload 4, 2) := by decide +kernel
theorem dX7_enter_98 : decode cX7_enter 98 = .ok (.ireturn, 1) := by decide +kernel
theorem dX7_hold_0 : decode cX7_hold 0 = .ok (.aload_n 0, 1) := by decide +kernel
theorem dX7_hold_1 : decode cX7_hold 1 = .ok (.aload_n 1, 1) := by decide +kernel
theorem dX7_hold_2 : decode cX7_hold 2 = .ok (.putfield 53, 3) := by decide +kernel
theorem dX7_hold_5 : decode cX7_hold 5 = .ok (.iconst 0, 1) := by decide +kernel
theorem dX7_hold_6 : decode cX7_hold 6 = .ok (.istore_n 2, 1) := by decide +kernel
theorem dX7_hold_7 : decode cX7_hold 7 = .ok (.iload_n 2, 1) := by decide +kernel
theorem dX7_hold_8 : decode cX7_hold 8 = .ok (.aload_n 0, 1) := by decide +kernel
theorem dX7_hold_9 : decode cX7_hold 9 = .ok (.getfield 11, 3) := by decide +kernel
theorem dX7_hold_12 : decode cX7_hold 12 = .ok (.if_icmp .ge 14, 3) := by decide +kernel
theorem dX7_hold_15 : decode cX7_hold 15 = .ok (.aload_n 0, 1) := by decide +kernel
theorem dX7_hold_16 : decode cX7_hold 16 = .ok (.iload_n 2, 1) := by decide +kernel
theorem dX7_hold_17 : decode cX7_hold 17 = .ok (.invokevirtual 80, 3) := by decide +kernel
theorem dX7_hold_20 : decode cX7_hold 20 = .ok (.iinc 2 1, 3) := by decide +kernel
theorem dX7_hold_23 : decode cX7_hold 23 = .ok (.goto (-16), 3) := by decide +kernel
theorem dX7_hold_26 : decode cX7_hold 26 = .ok (.return_, 1) := by decide +kernel
theorem dX7_pace_0 : decode cX7_pace 0 = .ok (.aload_n 0, 1) := by decide +kernel
theorem dX7_pace_1 : decode cX7_pace 1 = .ok (.getfield 53, 3) := by decide +kernel
theorem dX7_pace_4 : decode cX7_pace 4 = .ok (.ifnonnull 8, 3) := by decide +kernel
theorem dX7_pace_7 : decode cX7_pace 7 = .ok (.bipush 10, 2) := by decide +kernel
theorem dX7_pace_9 : decode cX7_pace 9 = .ok (.goto 10, 3) := by decide +kernel
theorem dX7_pace_12 : decode cX7_pace 12 = .ok (.aload_n 0, 1) := by decide +kernel
theorem dX7_pace_13 : decode cX7_pace 13 = .ok (.getfield 53, 3) := by decide +kernel
theorem dX7_pace_16 : decode cX7_pace 16 = .ok (.getfield 85, 3) := by decide +kernel
theorem dX7_pace_19 : decode cX7_pace 19 = .ok (.ireturn, 1) := by decide +kernel
theorem dX7_learn_0 : decode cX7_learn 0 = .ok (.iload_n 1, 1) := by decide +kernel
theorem dX7_learn_1 : decode cX7_learn 1 = .ok (.bipush 101, 2) := by decide +kernel
theorem dX7_learn_3 : decode cX7_learn 3 = .ok (.imul, 1) := by decide +kernel
theorem dX7_learn_4 : decode cX7_learn 4 = .ok (.istore_n 2, 1) := by decide +kernel
theorem dX7_learn_5 : decode cX7_learn 5 = .ok (.aload_n 0, 1) := by decide +kernel
theorem dX7_learn_6 : decode cX7_learn 6 = .ok (.getfield 50, 3) := by decide +kernel
theorem dX7_learn_9 : decode cX7_learn 9 = .ok (.iconst 0, 1) := by decide +kernel
theorem dX7_learn_10 : decode cX7_learn 10 = .ok (.iload_n 1, 1) := by decide +kernel
theorem dX7_learn_11 : decode cX7_learn 11 = .ok (.iastore, 1) := by decide +kernel
theorem dX7_learn_12 : decode cX7_learn 12 = .ok (.aload_n 0, 1) := by decide +kernel
theorem dX7_learn_13 : decode cX7_learn 13 = .ok (.getfield 50, 3) := by decide +kernel
theorem dX7_learn_16 : decode cX7_learn 16 = .ok (.iconst 1, 1) := by decide +kernel
theorem dX7_learn_17 : decode cX7_learn 17 = .ok (.aload_n 0, 1) := by decide +kernel
theorem dX7_learn_18 : decode cX7_learn 18 = .ok (.getfield 15, 3) := by decide +kernel
theorem dX7_learn_21 : decode cX7_learn 21 = .ok (.iload_n 1, 1) := by decide +kernel
theorem dX7_learn_22 : decode cX7_learn 22 = .ok (.iaload, 1) := by decide +kernel
theorem dX7_learn_23 : decode cX7_learn 23 = .ok (.iastore, 1) := by decide +kernel
theorem dX7_learn_24 : decode cX7_learn 24 = .ok (.aload_n 0, 1) := by decide +kernel
theorem dX7_learn_25 : decode cX7_learn 25 = .ok (.getfield 50, 3) := by decide +kernel
theorem dX7_learn_28 : decode cX7_learn 28 = .ok (.iconst 2, 1) := by decide +kernel
theorem dX7_learn_29 : decode cX7_learn 29 = .ok (.aload_n 0, 1) := by decide +kernel
theorem dX7_learn_30 : decode cX7_learn 30 = .ok (.getfield 19, 3) := by decide +kernel
theorem dX7_learn_33 : decode cX7_learn 33 = .ok (.iload_n 1, 1) := by decide +kernel
theorem dX7_learn_34 : decode cX7_learn 34 = .ok (.iaload, 1) := by decide +kernel
theorem dX7_learn_35 : decode cX7_learn 35 = .ok (.iastore, 1) := by decide +kernel
theorem dX7_learn_36 : decode cX7_learn 36 = .ok (.aload_n 0, 1) := by decide +kernel
theorem dX7_learn_37 : decode cX7_learn 37 = .ok (.getfield 25, 3) := by decide +kernel
theorem dX7_learn_40 : decode cX7_learn 40 = .ok (.iload_n 2, 1) := by decide +kernel
theorem dX7_learn_41 : decode cX7_learn 41 = .ok (.iconst 0, 1) := by decide +kernel
theorem dX7_learn_42 : decode cX7_learn 42 = .ok (.iastore, 1) := by decide +kernel
theorem dX7_learn_43 : decode cX7_learn 43 = .ok (.iconst 0, 1) := by decide +kernel
theorem dX7_learn_44 : decode cX7_learn 44 = .ok (.istore_n 3, 1) := by decide +kernel
theorem dX7_learn_45 : decode cX7_learn 45 = .ok (.iload_n 3, 1) := by decide +kernel
theorem dX7_learn_46 : decode cX7_learn 46 = .ok (.bipush 100, 2) := by decide +kernel
theorem dX7_learn_48 : decode cX7_learn 48 = .ok (.if_icmp .ge 81, 3) := by decide +kernel
theorem dX7_learn_51 : decode cX7_learn 51 = .ok (.aload_n 0, 1) := by decide +kernel
theorem dX7_learn_52 : decode cX7_learn 52 = .ok (.getfield 50, 3) := by decide +kernel
theorem dX7_learn_55 : decode cX7_learn 55 = .ok (.iconst 3, 1) := by decide +kernel
theorem dX7_learn_56 : decode cX7_learn 56 = .ok (.iload_n 3, 1) := by decide +kernel
theorem dX7_learn_57 : decode cX7_learn 57 = .ok (.bipush 10, 2) := by decide +kernel
theorem dX7_learn_59 : decode cX7_learn 59 = .ok (.irem, 1) := by decide +kernel
theorem dX7_learn_60 : decode cX7_learn 60 = .ok (.iastore, 1) := by decide +kernel
theorem dX7_learn_61 : decode cX7_learn 61 = .ok (.aload_n 0, 1) := by decide +kernel
theorem dX7_learn_62 : decode cX7_learn 62 = .ok (.getfield 50, 3) := by decide +kernel
theorem dX7_learn_65 : decode cX7_learn 65 = .ok (.iconst 4, 1) := by decide +kernel
theorem dX7_learn_66 : decode cX7_learn 66 = .ok (.iload_n 3, 1) := by decide +kernel
theorem dX7_learn_67 : decode cX7_learn 67 = .ok (.bipush 10, 2) := by decide +kernel
theorem dX7_learn_69 : decode cX7_learn 69 = .ok (.idiv, 1) := by decide +kernel
theorem dX7_learn_70 : decode cX7_learn 70 = .ok (.iastore, 1) := by decide +kernel
theorem dX7_learn_71 : decode cX7_learn 71 = .ok (.aload_n 0, 1) := by decide +kernel
theorem dX7_learn_72 : decode cX7_learn 72 = .ok (.getfield 50, 3) := by decide +kernel
theorem dX7_learn_75 : decode cX7_learn 75 = .ok (.iconst 5, 1) := by decide +kernel
theorem dX7_learn_76 : decode cX7_learn 76 = .ok (.iload_n 3, 1) := by decide +kernel
theorem dX7_learn_77 : decode cX7_learn 77 = .ok (.iastore, 1) := by decide +kernel
theorem dX7_learn_78 : decode cX7_learn 78 = .ok (.aload_n 0, 1) := by decide +kernel
theorem dX7_learn_79 : decode cX7_learn 79 = .ok (.getfield 53, 3) := by decide +kernel
theorem dX7_learn_82 : decode cX7_learn 82 = .ok (.ifnonnull 7, 3) := by decide +kernel
theorem dX7_learn_85 : decode cX7_learn 85 = .ok (.iconst 1, 1) := by decide +kernel
theorem dX7_learn_86 : decode cX7_learn 86 = .ok (.goto 14, 3) := by decide +kernel
theorem dX7_learn_89 : decode cX7_learn 89 = .ok (.aload_n 0, 1) := by decide +kernel
theorem dX7_learn_90 : decode cX7_learn 90 = .ok (.getfield 53, 3) := by decide +kernel
theorem dX7_learn_93 : decode cX7_learn 93 = .ok (.aload_n 0, 1) := by decide +kernel
theorem dX7_learn_94 : decode cX7_learn 94 = .ok (.getfield 50, 3) := by decide +kernel
theorem dX7_learn_97 : decode cX7_learn 97 = .ok (.invokevirtual 88, 3) := by decide +kernel
theorem dX7_learn_100 : decode cX7_learn 100 = .ok (.istore 4, 2) := by decide +kernel
theorem dX7_learn_102 : decode cX7_learn 102 = .ok (.aload_n 0, 1) := by decide +kernel
theorem dX7_learn_103 : decode cX7_learn 103 = .ok (.getfield 25, 3) := by decide +kernel
theorem dX7_learn_106 : decode cX7_learn 106 = .ok (.iload_n 2, 1) := by decide +kernel
theorem dX7_learn_107 : decode cX7_learn 107 = .ok (.iload_n 3, 1) := by decide +kernel
theorem dX7_learn_108 : decode cX7_learn 108 = .ok (.iadd, 1) := by decide +kernel
theorem dX7_learn_109 : decode cX7_learn 109 = .ok (.iconst 1, 1) := by decide +kernel
theorem dX7_learn_110 : decode cX7_learn 110 = .ok (.iadd, 1) := by decide +kernel
theorem dX7_learn_111 : decode cX7_learn 111 = .ok (.aload_n 0, 1) := by decide +kernel
theorem dX7_learn_112 : decode cX7_learn 112 = .ok (.getfield 25, 3) := by decide +kernel
theorem dX7_learn_115 : decode cX7_learn 115 = .ok (.iload_n 2, 1) := by decide +kernel
theorem dX7_learn_116 : decode cX7_learn 116 = .ok (.iload_n 3, 1) := by decide +kernel
theorem dX7_learn_117 : decode cX7_learn 117 = .ok (.iadd, 1) := by decide +kernel
theorem dX7_learn_118 : decode cX7_learn 118 = .ok (.iaload, 1) := by decide +kernel
theorem dX7_learn_119 : decode cX7_learn 119 = .ok (.iload 4, 2) := by decide +kernel
theorem dX7_learn_121 : decode cX7_learn 121 = .ok (.iadd, 1) := by decide +kernel
theorem dX7_learn_122 : decode cX7_learn 122 = .ok (.iastore, 1) := by decide +kernel
theorem dX7_learn_123 : decode cX7_learn 123 = .ok (.iinc 3 1, 3) := by decide +kernel
theorem dX7_learn_126 : decode cX7_learn 126 = .ok (.goto (-81), 3) := by decide +kernel
theorem dX7_learn_129 : decode cX7_learn 129 = .ok (.return_, 1) := by decide +kernel
theorem dX7_newsOf_0 : decode cX7_newsOf 0 = .ok (.iload_n 1, 1) := by decide +kernel
theorem dX7_newsOf_1 : decode cX7_newsOf 1 = .ok (.bipush 101, 2) := by decide +kernel
theorem dX7_newsOf_3 : decode cX7_newsOf 3 = .ok (.imul, 1) := by decide +kernel
theorem dX7_newsOf_4 : decode cX7_newsOf 4 = .ok (.iload_n 2, 1) := by decide +kernel
theorem dX7_newsOf_5 : decode cX7_newsOf 5 = .ok (.bipush 100, 2) := by decide +kernel
theorem dX7_newsOf_7 : decode cX7_newsOf 7 = .ok (.irem, 1) := by decide +kernel
theorem dX7_newsOf_8 : decode cX7_newsOf 8 = .ok (.iadd, 1) := by decide +kernel
theorem dX7_newsOf_9 : decode cX7_newsOf 9 = .ok (.istore_n 3, 1) := by decide +kernel
theorem dX7_newsOf_10 : decode cX7_newsOf 10 = .ok (.aload_n 0, 1) := by decide +kernel
theorem dX7_newsOf_11 : decode cX7_newsOf 11 = .ok (.getfield 25, 3) := by decide +kernel
theorem dX7_newsOf_14 : decode cX7_newsOf 14 = .ok (.iload_n 3, 1) := by decide +kernel
theorem dX7_newsOf_15 : decode cX7_newsOf 15 = .ok (.iconst 1, 1) := by decide +kernel
theorem dX7_newsOf_16 : decode cX7_newsOf 16 = .ok (.iadd, 1) := by decide +kernel
theorem dX7_newsOf_17 : decode cX7_newsOf 17 = .ok (.iaload, 1) := by decide +kernel
theorem dX7_newsOf_18 : decode cX7_newsOf 18 = .ok (.aload_n 0, 1) := by decide +kernel
theorem dX7_newsOf_19 : decode cX7_newsOf 19 = .ok (.getfield 25, 3) := by decide +kernel
theorem dX7_newsOf_22 : decode cX7_newsOf 22 = .ok (.iload_n 3, 1) := by decide +kernel
theorem dX7_newsOf_23 : decode cX7_newsOf 23 = .ok (.iaload, 1) := by decide +kernel
theorem dX7_newsOf_24 : decode cX7_newsOf 24 = .ok (.isub, 1) := by decide +kernel
theorem dX7_newsOf_25 : decode cX7_newsOf 25 = .ok (.ireturn, 1) := by decide +kernel
theorem dX7_newsAhead_0 : decode cX7_newsAhead 0 = .ok (.iload_n 1, 1) := by decide +kernel
theorem dX7_newsAhead_1 : decode cX7_newsAhead 1 = .ok (.bipush 101, 2) := by decide +kernel
theorem dX7_newsAhead_3 : decode cX7_newsAhead 3 = .ok (.imul, 1) := by decide +kernel
theorem dX7_newsAhead_4 : decode cX7_newsAhead 4 = .ok (.istore_n 3, 1) := by decide +kernel
theorem dX7_newsAhead_5 : decode cX7_newsAhead 5 = .ok (.iload_n 2, 1) := by decide +kernel
theorem dX7_newsAhead_6 : decode cX7_newsAhead 6 = .ok (.bipush 100, 2) := by decide +kernel
theorem dX7_newsAhead_8 : decode cX7_newsAhead 8 = .ok (.idiv, 1) := by decide +kernel
theorem dX7_newsAhead_9 : decode cX7_newsAhead 9 = .ok (.aload_n 0, 1) := by decide +kernel
theorem dX7_newsAhead_10 : decode cX7_newsAhead 10 = .ok (.getfield 25, 3) := by decide +kernel
theorem dX7_newsAhead_13 : decode cX7_newsAhead 13 = .ok (.iload_n 3, 1) := by decide +kernel
theorem dX7_newsAhead_14 : decode cX7_newsAhead 14 = .ok (.bipush 100, 2) := by decide +kernel
theorem dX7_newsAhead_16 : decode cX7_newsAhead 16 = .ok (.iadd, 1) := by decide +kernel
theorem dX7_newsAhead_17 : decode cX7_newsAhead 17 = .ok (.iaload, 1) := by decide +kernel
theorem dX7_newsAhead_18 : decode cX7_newsAhead 18 = .ok (.imul, 1) := by decide +kernel
theorem dX7_newsAhead_19 : decode cX7_newsAhead 19 = .ok (.aload_n 0, 1) := by decide +kernel
theorem dX7_newsAhead_20 : decode cX7_newsAhead 20 = .ok (.getfield 25, 3) := by decide +kernel
theorem dX7_newsAhead_23 : decode cX7_newsAhead 23 = .ok (.iload_n 3, 1) := by decide +kernel
theorem dX7_newsAhead_24 : decode cX7_newsAhead 24 = .ok (.iload_n 2, 1) := by decide +kernel
theorem dX7_newsAhead_25 : decode cX7_newsAhead 25 = .ok (.bipush 100, 2) := by decide +kernel
theorem dX7_newsAhead_27 : decode cX7_newsAhead 27 = .ok (.irem, 1) := by decide +kernel
theorem dX7_newsAhead_28 : decode cX7_newsAhead 28 = .ok (.iadd, 1) := by decide +kernel
theorem dX7_newsAhead_29 : decode cX7_newsAhead 29 = .ok (.iaload, 1) := by decide +kernel
theorem dX7_newsAhead_30 : decode cX7_newsAhead 30 = .ok (.iadd, 1) := by decide +kernel
theorem dX7_newsAhead_31 : decode cX7_newsAhead 31 = .ok (.ireturn, 1) := by decide +kernel
theorem dX7_leftOf_0 : decode cX7_leftOf 0 = .ok (.aload_n 0, 1) := by decide +kernel
theorem dX7_leftOf_1 : decode cX7_leftOf 1 = .ok (.iload_n 2, 1) := by decide +kernel
theorem dX7_leftOf_2 : decode cX7_leftOf 2 = .ok (.aload_n 1, 1) := by decide +kernel
theorem dX7_leftOf_3 : decode cX7_leftOf 3 = .ok (.getfield 73, 3) := by decide +kernel
theorem dX7_leftOf_6 : decode cX7_leftOf 6 = .ok (.invokevirtual 92, 3) := by decide +kernel
theorem dX7_leftOf_9 : decode cX7_leftOf 9 = .ok (.aload_n 0, 1) := by decide +kernel
theorem dX7_leftOf_10 : decode cX7_leftOf 10 = .ok (.iload_n 2, 1) := by decide +kernel
theorem dX7_leftOf_11 : decode cX7_leftOf 11 = .ok (.aload_n 1, 1) := by decide +kernel
theorem dX7_leftOf_12 : decode cX7_leftOf 12 = .ok (.getfield 70, 3) := by decide +kernel
theorem dX7_leftOf_15 : decode cX7_leftOf 15 = .ok (.iload_n 2, 1) := by decide +kernel
theorem dX7_leftOf_16 : decode cX7_leftOf 16 = .ok (.iaload, 1) := by decide +kernel
theorem dX7_leftOf_17 : decode cX7_leftOf 17 = .ok (.invokevirtual 92, 3) := by decide +kernel
theorem dX7_leftOf_20 : decode cX7_leftOf 20 = .ok (.isub, 1) := by decide +kernel
theorem dX7_leftOf_21 : decode cX7_leftOf 21 = .ok (.ireturn, 1) := by decide +kernel
theorem dX7_leftOfAll_0 : decode cX7_leftOfAll 0 = .ok (.iconst 0, 1) := by decide +kernel
theorem dX7_leftOfAll_1 : decode cX7_leftOfAll 1 = .ok (.istore_n 2, 1) := by decide +kernel
theorem dX7_leftOfAll_2 : decode cX7_leftOfAll 2 = .ok (.iconst 0, 1) := by decide +kernel
theorem dX7_leftOfAll_3 : decode cX7_leftOfAll 3 = .ok (.istore_n 3, 1) := by decide +kernel
theorem dX7_leftOfAll_4 : decode cX7_leftOfAll 4 = .ok (.iload_n 3, 1) := by decide +kernel
theorem dX7_leftOfAll_5 : decode cX7_leftOfAll 5 = .ok (.aload_n 0, 1) := by decide +kernel
theorem dX7_leftOfAll_6 : decode cX7_leftOfAll 6 = .ok (.getfield 11, 3) := by decide +kernel
theorem dX7_leftOfAll_9 : decode cX7_leftOfAll 9 = .ok (.if_icmp .ge 18, 3) := by decide +kernel
theorem dX7_leftOfAll_12 : decode cX7_leftOfAll 12 = .ok (.iload_n 2, 1) := by decide +kernel
theorem dX7_leftOfAll_13 : decode cX7_leftOfAll 13 = .ok (.aload_n 0, 1) := by decide +kernel
theorem dX7_leftOfAll_14 : decode cX7_leftOfAll 14 = .ok (.aload_n 1, 1) := by decide +kernel
theorem dX7_leftOfAll_15 : decode cX7_leftOfAll 15 = .ok (.iload_n 3, 1) := by decide +kernel
theorem dX7_leftOfAll_16 : decode cX7_leftOfAll 16 = .ok (.invokevirtual 96, 3) := by decide +kernel
theorem dX7_leftOfAll_19 : decode cX7_leftOfAll 19 = .ok (.iadd, 1) := by decide +kernel
theorem dX7_leftOfAll_20 : decode cX7_leftOfAll 20 = .ok (.istore_n 2, 1) := by decide +kernel
theorem dX7_leftOfAll_21 : decode cX7_leftOfAll 21 = .ok (.iinc 3 1, 3) := by decide +kernel
theorem dX7_leftOfAll_24 : decode cX7_leftOfAll 24 = .ok (.goto (-20), 3) := by decide +kernel
theorem dX7_leftOfAll_27 : decode cX7_leftOfAll 27 = .ok (.iload_n 2, 1) := by decide +kernel
theorem dX7_leftOfAll_28 : decode cX7_leftOfAll 28 = .ok (.ireturn, 1) := by decide +kernel
theorem dX7_howManyUp_0 : decode cX7_howManyUp 0 = .ok (.iconst 0, 1) := by decide +kernel
theorem dX7_howManyUp_1 : decode cX7_howManyUp 1 = .ok (.istore_n 2, 1) := by decide +kernel
theorem dX7_howManyUp_2 : decode cX7_howManyUp 2 = .ok (.iconst 0, 1) := by decide +kernel
theorem dX7_howManyUp_3 : decode cX7_howManyUp 3 = .ok (.istore_n 3, 1) := by decide +kernel
theorem dX7_howManyUp_4 : decode cX7_howManyUp 4 = .ok (.iload_n 3, 1) := by decide +kernel
theorem dX7_howManyUp_5 : decode cX7_howManyUp 5 = .ok (.aload_n 0, 1) := by decide +kernel
theorem dX7_howManyUp_6 : decode cX7_howManyUp 6 = .ok (.getfield 11, 3) := by decide +kernel
theorem dX7_howManyUp_9 : decode cX7_howManyUp 9 = .ok (.if_icmp .ge 20, 3) := by decide +kernel
theorem dX7_howManyUp_12 : decode cX7_howManyUp 12 = .ok (.aload_n 1, 1) := by decide +kernel
theorem dX7_howManyUp_13 : decode cX7_howManyUp 13 = .ok (.iload_n 3, 1) := by decide +kernel
theorem dX7_howManyUp_14 : decode cX7_howManyUp 14 = .ok (.invokevirtual 100, 3) := by decide +kernel
theorem dX7_howManyUp_17 : decode cX7_howManyUp 17 = .ok (.ifCond .eq 6, 3) := by decide +kernel
theorem dX7_howManyUp_20 : decode cX7_howManyUp 20 = .ok (.iinc 2 1, 3) := by decide +kernel
theorem dX7_howManyUp_23 : decode cX7_howManyUp 23 = .ok (.iinc 3 1, 3) := by decide +kernel
theorem dX7_howManyUp_26 : decode cX7_howManyUp 26 = .ok (.goto (-22), 3) := by decide +kernel
theorem dX7_howManyUp_29 : decode cX7_howManyUp 29 = .ok (.iload_n 2, 1) := by decide +kernel
theorem dX7_howManyUp_30 : decode cX7_howManyUp 30 = .ok (.ireturn, 1) := by decide +kernel
theorem dX7_holds_0 : decode cX7_holds 0 = .ok (.aload_n 0, 1) := by decide +kernel
theorem dX7_holds_1 : decode cX7_holds 1 = .ok (.invokevirtual 104, 3) := by decide +kernel
theorem dX7_holds_4 : decode cX7_holds 4 = .ok (.istore_n 3, 1) := by decide +kernel
theorem dX7_holds_5 : decode cX7_holds 5 = .ok (.aload_n 0, 1) := by decide +kernel
theorem dX7_holds_6 : decode cX7_holds 6 = .ok (.getfield 15, 3) := by decide +kernel
theorem dX7_holds_9 : decode cX7_holds 9 = .ok (.iload_n 1, 1) := by decide +kernel
theorem dX7_holds_10 : decode cX7_holds 10 = .ok (.iaload, 1) := by decide +kernel
theorem dX7_holds_11 : decode cX7_holds 11 = .ok (.tableswitch 81 1 6 #[37, 81, 41, 49, 81, 60], 37) := by decide +kernel
theorem dX7_holds_48 : decode cX7_holds 48 = .ok (.iload_n 3, 1) := by decide +kernel
theorem dX7_holds_49 : decode cX7_holds 49 = .ok (.iconst 2, 1) := by decide +kernel
theorem dX7_holds_50 : decode cX7_holds 50 = .ok (.imul, 1) := by decide +kernel
theorem dX7_holds_51 : decode cX7_holds 51 = .ok (.ireturn, 1) := by decide +kernel
theorem dX7_holds_52 : decode cX7_holds 52 = .ok (.iconst 1, 1) := by decide +kernel
theorem dX7_holds_53 : decode cX7_holds 53 = .ok (.iload_n 3, 1) := by decide +kernel
theorem dX7_holds_54 : decode cX7_holds 54 = .ok (.iconst 2, 1) := by decide +kernel
theorem dX7_holds_55 : decode cX7_holds 55 = .ok (.idiv, 1) := by decide +kernel
theorem dX7_holds_56 : decode cX7_holds 56 = .ok (.invokestatic 107, 3) := by decide +kernel
theorem dX7_holds_59 : decode cX7_holds 59 = .ok (.ireturn, 1) := by decide +kernel
theorem dX7_holds_60 : decode cX7_holds 60 = .ok (.iload_n 3, 1) := by decide +kernel
theorem dX7_holds_61 : decode cX7_holds 61 = .ok (.iconst 2, 1) := by decide +kernel
theorem dX7_holds_62 : decode cX7_holds 62 = .ok (.imul, 1) := by decide +kernel
theorem dX7_holds_63 : decode cX7_holds 63 = .ok (.aload_n 0, 1) := by decide +kernel
theorem dX7_holds_64 : decode cX7_holds 64 = .ok (.getfield 19, 3) := by decide +kernel
theorem dX7_holds_67 : decode cX7_holds 67 = .ok (.iload_n 1, 1) := by decide +kernel
theorem dX7_holds_68 : decode cX7_holds 68 = .ok (.iaload, 1) := by decide +kernel
theorem dX7_holds_69 : decode cX7_holds 69 = .ok (.iadd, 1) := by decide +kernel
theorem dX7_holds_70 : decode cX7_holds 70 = .ok (.ireturn, 1) := by decide +kernel
theorem dX7_holds_71 : decode cX7_holds 71 = .ok (.iconst 1, 1) := by decide +kernel
theorem dX7_holds_72 : decode cX7_holds 72 = .ok (.iload_n 3, 1) := by decide +kernel
theorem dX7_holds_73 : decode cX7_holds 73 = .ok (.iconst 2, 1) := by decide +kernel
theorem dX7_holds_74 : decode cX7_holds 74 = .ok (.idiv, 1) := by decide +kernel
theorem dX7_holds_75 : decode cX7_holds 75 = .ok (.invokestatic 107, 3) := by decide +kernel
theorem dX7_holds_78 : decode cX7_holds 78 = .ok (.aload_n 0, 1) := by decide +kernel
theorem dX7_holds_79 : decode cX7_holds 79 = .ok (.getfield 22, 3) := by decide +kernel
theorem dX7_holds_82 : decode cX7_holds 82 = .ok (.iload_n 1, 1) := by decide +kernel
theorem dX7_holds_83 : decode cX7_holds 83 = .ok (.iconst 4, 1) := by decide +kernel
theorem dX7_holds_84 : decode cX7_holds 84 = .ok (.imul, 1) := by decide +kernel
theorem dX7_holds_85 : decode cX7_holds 85 = .ok (.iload_n 2, 1) := by decide +kernel
theorem dX7_holds_86 : decode cX7_holds 86 = .ok (.iconst 4, 1) := by decide +kernel
theorem dX7_holds_87 : decode cX7_holds 87 = .ok (.irem, 1) := by decide +kernel
theorem dX7_holds_88 : decode cX7_holds 88 = .ok (.iadd, 1) := by decide +kernel
theorem dX7_holds_89 : decode cX7_holds 89 = .ok (.iaload, 1) := by decide +kernel
theorem dX7_holds_90 : decode cX7_holds 90 = .ok (.iadd, 1) := by decide +kernel
theorem dX7_holds_91 : decode cX7_holds 91 = .ok (.ireturn, 1) := by decide +kernel
theorem dX7_holds_92 : decode cX7_holds 92 = .ok (.iload_n 3, 1) := by decide +kernel
theorem dX7_holds_93 : decode cX7_holds 93 = .ok (.ireturn, 1) := by decide +kernel
theorem dX7_minds_0 : decode cX7_minds 0 = .ok (.aload_n 0, 1) := by decide +kernel
theorem dX7_minds_1 : decode cX7_minds 1 = .ok (.getfield 15, 3) := by decide +kernel
theorem dX7_minds_4 : decode cX7_minds 4 = .ok (.iload_n 1, 1) := by decide +kernel
theorem dX7_minds_5 : decode cX7_minds 5 = .ok (.iaload, 1) := by decide +kernel
theorem dX7_minds_6 : decode cX7_minds 6 = .ok (.istore_n 3, 1) := by decide +kernel
theorem dX7_minds_7 : decode cX7_minds 7 = .ok (.iload_n 3, 1) := by decide +kernel
theorem dX7_minds_8 : decode cX7_minds 8 = .ok (.iconst 2, 1) := by decide +kernel
theorem dX7_minds_9 : decode cX7_minds 9 = .ok (.if_icmp .eq 10, 3) := by decide +kernel
theorem dX7_minds_12 : decode cX7_minds 12 = .ok (.iload_n 3, 1) := by decide +kernel
theorem dX7_minds_13 : decode cX7_minds 13 = .ok (.iconst 5, 1) := by decide +kernel
theorem dX7_minds_14 : decode cX7_minds 14 = .ok (.if_icmp .eq 5, 3) := by decide +kernel
theorem dX7_minds_17 : decode cX7_minds 17 = .ok (.iconst 0, 1) := by decide +kernel
theorem dX7_minds_18 : decode cX7_minds 18 = .ok (.ireturn, 1) := by decide +kernel
theorem dX7_minds_19 : decode cX7_minds 19 = .ok (.aload_n 0, 1) := by decide +kernel
theorem dX7_minds_20 : decode cX7_minds 20 = .ok (.getfield 19, 3) := by decide +kernel
theorem dX7_minds_23 : decode cX7_minds 23 = .ok (.iload_n 1, 1) := by decide +kernel
theorem dX7_minds_24 : decode cX7_minds 24 = .ok (.iaload, 1) := by decide +kernel
theorem dX7_minds_25 : decode cX7_minds 25 = .ok (.istore 4, 2) := by decide +kernel
theorem dX7_minds_27 : decode cX7_minds 27 = .ok (.iload_n 3, 1) := by decide +kernel
theorem dX7_minds_28 : decode cX7_minds 28 = .ok (.iconst 5, 1) := by decide +kernel
theorem dX7_minds_29 : decode cX7_minds 29 = .ok (.if_icmp .ne 14, 3) := by decide +kernel
theorem dX7_minds_32 : decode cX7_minds 32 = .ok (.iload_n 2, 1) := by decide +kernel
theorem dX7_minds_33 : decode cX7_minds 33 = .ok (.iload 4, 2) := by decide +kernel
theorem dX7_minds_35 : decode cX7_minds 35 = .ok (.iconst 2, 1) := by decide +kernel
theorem dX7_minds_36 : decode cX7_minds 36 = .ok (.iadd, 1) := by decide +kernel
theorem dX7_minds_37 : decode cX7_minds 37 = .ok (.irem, 1) := by decide +kernel
theorem dX7_minds_38 : decode cX7_minds 38 = .ok (.ifCond .ne 5, 3) := by decide +kernel
theorem dX7_minds_41 : decode cX7_minds 41 = .ok (.iconst 0, 1) := by decide +kernel
theorem dX7_minds_42 : decode cX7_minds 42 = .ok (.ireturn, 1) := by decide +kernel
theorem dX7_minds_43 : decode cX7_minds 43 = .ok (.aload_n 0, 1) := by decide +kernel
theorem dX7_minds_44 : decode cX7_minds 44 = .ok (.iload_n 1, 1) := by decide +kernel
theorem dX7_minds_45 : decode cX7_minds 45 = .ok (.iload_n 2, 1) := by decide +kernel
theorem dX7_minds_46 : decode cX7_minds 46 = .ok (.invokevirtual 112, 3) := by decide +kernel
theorem dX7_minds_49 : decode cX7_minds 49 = .ok (.iload 4, 2) := by decide +kernel
theorem dX7_minds_51 : decode cX7_minds 51 = .ok (.iconst 3, 1) := by decide +kernel
theorem dX7_minds_52 : decode cX7_minds 52 = .ok (.iadd, 1) := by decide +kernel
theorem dX7_minds_53 : decode cX7_minds 53 = .ok (.if_icmp .le 7, 3) := by decide +kernel
theorem dX7_minds_56 : decode cX7_minds 56 = .ok (.iconst 1, 1) := by decide +kernel
theorem dX7_minds_57 : decode cX7_minds 57 = .ok (.goto 4, 3) := by decide +kernel
theorem dX7_minds_60 : decode cX7_minds 60 = .ok (.iconst 0, 1) := by decide +kernel
theorem dX7_minds_61 : decode cX7_minds 61 = .ok (.ireturn, 1) := by decide +kernel
theorem dX7_evening_0 : decode cX7_evening 0 = .ok (.aload_n 0, 1) := by decide +kernel
theorem dX7_evening_1 : decode cX7_evening 1 = .ok (.iload_n 2, 1) := by decide +kernel
theorem dX7_evening_2 : decode cX7_evening 2 = .ok (.aload_n 1, 1) := by decide +kernel
theorem dX7_evening_3 : decode cX7_evening 3 = .ok (.getfield 73, 3) := by decide +kernel
theorem dX7_evening_6 : decode cX7_evening 6 = .ok (.invokevirtual 115, 3) := by decide +kernel
theorem dX7_evening_9 : decode cX7_evening 9 = .ok (.istore_n 3, 1) := by decide +kernel
theorem dX7_evening_10 : decode cX7_evening 10 = .ok (.iconst 0, 1) := by decide +kernel
theorem dX7_evening_11 : decode cX7_evening 11 = .ok (.istore 4, 2) := by decide +kernel
theorem dX7_evening_13 : decode cX7_evening 13 = .ok (.iload 4, 2) := by decide +kernel
theorem dX7_evening_15 : decode cX7_evening 15 = .ok (.bipush 30, 2) := by decide +kernel
theorem dX7_evening_17 : decode cX7_evening 17 = .ok (.if_icmp .ge 94, 3) := by decide +kernel
theorem dX7_evening_20 : decode cX7_evening 20 = .ok (.aload_n 1, 1) := by decide +kernel
theorem dX7_evening_21 : decode cX7_evening 21 = .ok (.getfield 70, 3) := by decide +kernel
theorem dX7_evening_24 : decode cX7_evening 24 = .ok (.iload_n 2, 1) := by decide +kernel
theorem dX7_evening_25 : decode cX7_evening 25 = .ok (.iaload, 1) := by decide +kernel
theorem dX7_evening_26 : decode cX7_evening 26 = .ok (.aload_n 1, 1) := by decide +kernel
theorem dX7_evening_27 : decode cX7_evening 27 = .ok (.getfield 73, 3) := by decide +kernel
theorem dX7_evening_30 : decode cX7_evening 30 = .ok (.if_icmp .ge 81, 3) := by decide +kernel
theorem dX7_evening_33 : decode cX7_evening 33 = .ok (.aload_n 1, 1) := by decide +kernel
theorem dX7_evening_34 : decode cX7_evening 34 = .ok (.getfield 76, 3) := by decide +kernel
theorem dX7_evening_37 : decode cX7_evening 37 = .ok (.iload_n 2, 1) := by decide +kernel
theorem dX7_evening_38 : decode cX7_evening 38 = .ok (.baload, 1) := by decide +kernel
theorem dX7_evening_39 : decode cX7_evening 39 = .ok (.ifCond .ne 72, 3) := by decide +kernel
theorem dX7_evening_42 : decode cX7_evening 42 = .ok (.aload_n 1, 1) := by decide +kernel
theorem dX7_evening_43 : decode cX7_evening 43 = .ok (.getfield 70, 3) := by decide +kernel
theorem dX7_evening_46 : decode cX7_evening 46 = .ok (.iload_n 2, 1) := by decide +kernel
theorem dX7_evening_47 : decode cX7_evening 47 = .ok (.iaload, 1) := by decide +kernel
theorem dX7_evening_48 : decode cX7_evening 48 = .ok (.istore 5, 2) := by decide +kernel
theorem dX7_evening_50 : decode cX7_evening 50 = .ok (.aload_n 0, 1) := by decide +kernel
theorem dX7_evening_51 : decode cX7_evening 51 = .ok (.iload_n 2, 1) := by decide +kernel
theorem dX7_evening_52 : decode cX7_evening 52 = .ok (.iload 5, 2) := by decide +kernel
theorem dX7_evening_54 : decode cX7_evening 54 = .ok (.invokevirtual 112, 3) := by decide +kernel
theorem dX7_evening_57 : decode cX7_evening 57 = .ok (.istore 6, 2) := by decide +kernel
theorem dX7_evening_59 : decode cX7_evening 59 = .ok (.aload_n 0, 1) := by decide +kernel
theorem dX7_evening_60 : decode cX7_evening 60 = .ok (.iload_n 2, 1) := by decide +kernel
theorem dX7_evening_61 : decode cX7_evening 61 = .ok (.iload 5, 2) := by decide +kernel
theorem dX7_evening_63 : decode cX7_evening 63 = .ok (.invokevirtual 118, 3) := by decide +kernel
theorem dX7_evening_66 : decode cX7_evening 66 = .ok (.ifCond .eq 13, 3) := by decide +kernel
theorem dX7_evening_69 : decode cX7_evening 69 = .ok (.aload_n 1, 1) := by decide +kernel
theorem dX7_evening_70 : decode cX7_evening 70 = .ok (.getfield 76, 3) := by decide +kernel
theorem dX7_evening_73 : decode cX7_evening 73 = .ok (.iload_n 2, 1) := by decide +kernel
theorem dX7_evening_74 : decode cX7_evening 74 = .ok (.iconst 1, 1) := by decide +kernel
theorem dX7_evening_75 : decode cX7_evening 75 = .ok (.bastore, 1) := by decide +kernel
theorem dX7_evening_76 : decode cX7_evening 76 = .ok (.goto 32, 3) := by decide +kernel
theorem dX7_evening_79 : decode cX7_evening 79 = .ok (.iload 4, 2) := by decide +kernel
theorem dX7_evening_81 : decode cX7_evening 81 = .ok (.ifCond .eq 9, 3) := by decide +kernel
theorem dX7_evening_84 : decode cX7_evening 84 = .ok (.iload 6, 2) := by decide +kernel
theorem dX7_evening_86 : decode cX7_evening 86 = .ok (.iload_n 3, 1) := by decide +kernel
theorem dX7_evening_87 : decode cX7_evening 87 = .ok (.if_icmp .gt 24, 3) := by decide +kernel
theorem dX7_evening_90 : decode cX7_evening 90 = .ok (.iload_n 3, 1) := by decide +kernel
theorem dX7_evening_91 : decode cX7_evening 91 = .ok (.iload 6, 2) := by decide +kernel
theorem dX7_evening_93 : decode cX7_evening 93 = .ok (.isub, 1) := by decide +kernel
theorem dX7_evening_94 : decode cX7_evening 94 = .ok (.istore_n 3, 1) := by decide +kernel
theorem dX7_evening_95 : decode cX7_evening 95 = .ok (.aload_n 1, 1) := by decide +kernel
theorem dX7_evening_96 : decode cX7_evening 96 = .ok (.getfield 70, 3) := by decide +kernel
theorem dX7_evening_99 : decode cX7_evening 99 = .ok (.iload_n 2, 1) := by decide +kernel
theorem dX7_evening_100 : decode cX7_evening 100 = .ok (.dup2, 1) := by decide +kernel
theorem dX7_evening_101 : decode cX7_evening 101 = .ok (.iaload, 1) := by decide +kernel
theorem dX7_evening_102 : decode cX7_evening 102 = .ok (.iconst 1, 1) := by decide +kernel
theorem dX7_evening_103 : decode cX7_evening 103 = .ok (.iadd, 1) := by decide +kernel
theorem dX7_evening_104 : decode cX7_evening 104 = .ok (.iastore, 1) := by decide +kernel
theorem dX7_evening_105 : decode cX7_evening 105 = .ok (.iinc 4 1, 3) := by decide +kernel
theorem dX7_evening_108 : decode cX7_evening 108 = .ok (.goto (-95), 3) := by decide +kernel
theorem dX7_evening_111 : decode cX7_evening 111 = .ok (.aload_n 0, 1) := by decide +kernel
theorem dX7_evening_112 : decode cX7_evening 112 = .ok (.aload_n 1, 1) := by decide +kernel
theorem dX7_evening_113 : decode cX7_evening 113 = .ok (.invokevirtual 122, 3) := by decide +kernel
theorem dX7_evening_116 : decode cX7_evening 116 = .ok (.iload 4, 2) := by decide +kernel
theorem dX7_evening_118 : decode cX7_evening 118 = .ok (.ireturn, 1) := by decide +kernel
theorem dX7_night_0 : decode cX7_night 0 = .ok (.iconst 0, 1) := by decide +kernel
theorem dX7_night_1 : decode cX7_night 1 = .ok (.istore_n 2, 1) := by decide +kernel
theorem dX7_night_2 : decode cX7_night 2 = .ok (.iload_n 2, 1) := by decide +kernel
theorem dX7_night_3 : decode cX7_night 3 = .ok (.aload_n 0, 1) := by decide +kernel
theorem dX7_night_4 : decode cX7_night 4 = .ok (.getfield 11, 3) := by decide +kernel
theorem dX7_night_7 : decode cX7_night 7 = .ok (.if_icmp .ge 27, 3) := by decide +kernel
theorem dX7_night_10 : decode cX7_night 10 = .ok (.aload_n 1, 1) := by decide +kernel
theorem dX7_night_11 : decode cX7_night 11 = .ok (.iload_n 2, 1) := by decide +kernel
theorem dX7_night_12 : decode cX7_night 12 = .ok (.invokevirtual 100, 3) := by decide +kernel
theorem dX7_night_15 : decode cX7_night 15 = .ok (.ifCond .eq 13, 3) := by decide +kernel
theorem dX7_night_18 : decode cX7_night 18 = .ok (.aload_n 1, 1) := by decide +kernel
theorem dX7_night_19 : decode cX7_night 19 = .ok (.getfield 70, 3) := by decide +kernel
theorem dX7_night_22 : decode cX7_night 22 = .ok (.iload_n 2, 1) := by decide +kernel
theorem dX7_night_23 : decode cX7_night 23 = .ok (.dup2, 1) := by decide +kernel
theorem dX7_night_24 : decode cX7_night 24 = .ok (.iaload, 1) := by decide +kernel
theorem dX7_night_25 : decode cX7_night 25 = .ok (.iconst 1, 1) := by decide +kernel
theorem dX7_night_26 : decode cX7_night 26 = .ok (.iadd, 1) := by decide +kernel
theorem dX7_night_27 : decode cX7_night 27 = .ok (.iastore, 1) := by decide +kernel
theorem dX7_night_28 : decode cX7_night 28 = .ok (.iinc 2 1, 3) := by decide +kernel
theorem dX7_night_31 : decode cX7_night 31 = .ok (.goto (-29), 3) := by decide +kernel
theorem dX7_night_34 : decode cX7_night 34 = .ok (.aload_n 1, 1) := by decide +kernel
theorem dX7_night_35 : decode cX7_night 35 = .ok (.dup, 1) := by decide +kernel
theorem dX7_night_36 : decode cX7_night 36 = .ok (.getfield 73, 3) := by decide +kernel
theorem dX7_night_39 : decode cX7_night 39 = .ok (.iconst 1, 1) := by decide +kernel
theorem dX7_night_40 : decode cX7_night 40 = .ok (.iadd, 1) := by decide +kernel
theorem dX7_night_41 : decode cX7_night 41 = .ok (.putfield 73, 3) := by decide +kernel
theorem dX7_night_44 : decode cX7_night 44 = .ok (.return_, 1) := by decide +kernel
theorem dX8_init_0 : decode cX8_init 0 = .ok (.aload_n 0, 1) := by decide +kernel
theorem dX8_init_1 : decode cX8_init 1 = .ok (.invokespecial 1, 3) := by decide +kernel
theorem dX8_init_4 : decode cX8_init 4 = .ok (.aload_n 0, 1) := by decide +kernel
theorem dX8_init_5 : decode cX8_init 5 = .ok (.iconst (-1), 1) := by decide +kernel
theorem dX8_init_6 : decode cX8_init 6 = .ok (.putfield 9, 3) := by decide +kernel
theorem dX8_init_9 : decode cX8_init 9 = .ok (.aload_n 0, 1) := by decide +kernel
theorem dX8_init_10 : decode cX8_init 10 = .ok (.iconst 0, 1) := by decide +kernel
theorem dX8_init_11 : decode cX8_init 11 = .ok (.putfield 13, 3) := by decide +kernel
theorem dX8_init_14 : decode cX8_init 14 = .ok (.aload_n 0, 1) := by decide +kernel
theorem dX8_init_15 : decode cX8_init 15 = .ok (.bipush 60, 2) := by decide +kernel
theorem dX8_init_17 : decode cX8_init 17 = .ok (.newarray .long, 2) := by decide +kernel
theorem dX8_init_19 : decode cX8_init 19 = .ok (.putfield 16, 3) := by decide +kernel
theorem dX8_init_22 : decode cX8_init 22 = .ok (.return_, 1) := by decide +kernel
theorem dX8_become_0 : decode cX8_become 0 = .ok (.aload_n 0, 1) := by decide +kernel
theorem dX8_become_1 : decode cX8_become 1 = .ok (.iload_n 1, 1) := by decide +kernel
theorem dX8_become_2 : decode cX8_become 2 = .ok (.putfield 9, 3) := by decide +kernel
theorem dX8_become_5 : decode cX8_become 5 = .ok (.aload_n 0, 1) := by decide +kernel
theorem dX8_become_6 : decode cX8_become 6 = .ok (.iload_n 2, 1) := by decide +kernel
theorem dX8_become_7 : decode cX8_become 7 = .ok (.putfield 13, 3) := by decide +kernel
theorem dX8_become_10 : decode cX8_become 10 = .ok (.aload_n 0, 1) := by decide +kernel
theorem dX8_become_11 : decode cX8_become 11 = .ok (.getfield 16, 3) := by decide +kernel
theorem dX8_become_14 : decode cX8_become 14 = .ok (.lconst 0, 1) := by decide +kernel
theorem dX8_become_15 : decode cX8_become 15 = .ok (.invokestatic 20, 3) := by decide +kernel
theorem dX8_become_18 : decode cX8_become 18 = .ok (.return_, 1) := by decide +kernel
theorem dX8_has_0 : decode cX8_has 0 = .ok (.iload_n 1, 1) := by decide +kernel
theorem dX8_has_1 : decode cX8_has 1 = .ok (.ifCond .lt 15, 3) := by decide +kernel
theorem dX8_has_4 : decode cX8_has 4 = .ok (.iload_n 1, 1) := by decide +kernel
theorem dX8_has_5 : decode cX8_has 5 = .ok (.aload_n 0, 1) := by decide +kernel
theorem dX8_has_6 : decode cX8_has 6 = .ok (.getfield 13, 3) := by decide +kernel
theorem dX8_has_9 : decode cX8_has 9 = .ok (.if_icmp .ge 7, 3) := by decide +kernel
theorem dX8_has_12 : decode cX8_has 12 = .ok (.iconst 1, 1) := by decide +kernel
theorem dX8_has_13 : decode cX8_has 13 = .ok (.goto 4, 3) := by decide +kernel
theorem dX8_has_16 : decode cX8_has 16 = .ok (.iconst 0, 1) := by decide +kernel
theorem dX8_has_17 : decode cX8_has 17 = .ok (.ireturn, 1) := by decide +kernel
theorem dX8_hasRun_0 : decode cX8_hasRun 0 = .ok (.iload_n 1, 1) := by decide +kernel
theorem dX8_hasRun_1 : decode cX8_hasRun 1 = .ok (.ifCond .lt 29, 3) := by decide +kernel
theorem dX8_hasRun_4 : decode cX8_hasRun 4 = .ok (.iload_n 2, 1) := by decide +kernel
theorem dX8_hasRun_5 : decode cX8_hasRun 5 = .ok (.ifCond .lt 25, 3) := by decide +kernel
theorem dX8_hasRun_8 : decode cX8_hasRun 8 = .ok (.iload_n 2, 1) := by decide +kernel
theorem dX8_hasRun_9 : decode cX8_hasRun 9 = .ok (.aload_n 0, 1) := by decide +kernel
theorem dX8_hasRun_10 : decode cX8_hasRun 10 = .ok (.getfield 13, 3) := by decide +kernel
theorem dX8_hasRun_13 : decode cX8_hasRun 13 = .ok (.if_icmp .gt 17, 3) := by decide +kernel
theorem dX8_hasRun_16 : decode cX8_hasRun 16 = .ok (.iload_n 1, 1) := by decide +kernel
theorem dX8_hasRun_17 : decode cX8_hasRun 17 = .ok (.aload_n 0, 1) := by decide +kernel
theorem dX8_hasRun_18 : decode cX8_hasRun 18 = .ok (.getfield 13, 3) := by decide +kernel
theorem dX8_hasRun_21 : decode cX8_hasRun 21 = .ok (.iload_n 2, 1) := by decide +kernel
theorem dX8_hasRun_22 : decode cX8_hasRun 22 = .ok (.isub, 1) := by decide +kernel
theorem dX8_hasRun_23 : decode cX8_hasRun 23 = .ok (.if_icmp .gt 7, 3) := by decide +kernel
theorem dX8_hasRun_26 : decode cX8_hasRun 26 = .ok (.iconst 1, 1) := by decide +kernel
theorem dX8_hasRun_27 : decode cX8_hasRun 27 = .ok (.goto 4, 3) := by decide +kernel
theorem dX8_hasRun_30 : decode cX8_hasRun 30 = .ok (.iconst 0, 1) := by decide +kernel
theorem dX8_hasRun_31 : decode cX8_hasRun 31 = .ok (.ireturn, 1) := by decide +kernel
theorem dX8_cut_0 : decode cX8_cut 0 = .ok (.aload_n 0, 1) := by decide +kernel
theorem dX8_cut_1 : decode cX8_cut 1 = .ok (.getfield 9, 3) := by decide +kernel
theorem dX8_cut_4 : decode cX8_cut 4 = .ok (.tableswitch 62 0 4 #[36, 41, 46, 62, 50], 36) := by decide +kernel
theorem dX8_cut_40 : decode cX8_cut 40 = .ok (.lload_n 1, 1) := by decide +kernel
theorem dX8_cut_41 : decode cX8_cut 41 = .ok (.l2i, 1) := by decide +kernel
theorem dX8_cut_42 : decode cX8_cut 42 = .ok (.i2b, 1) := by decide +kernel
theorem dX8_cut_43 : decode cX8_cut 43 = .ok (.i2l, 1) := by decide +kernel
theorem dX8_cut_44 : decode cX8_cut 44 = .ok (.lreturn, 1) := by decide +kernel
theorem dX8_cut_45 : decode cX8_cut 45 = .ok (.lload_n 1, 1) := by decide +kernel
theorem dX8_cut_46 : decode cX8_cut 46 = .ok (.l2i, 1) := by decide +kernel
theorem dX8_cut_47 : decode cX8_cut 47 = .ok (.i2s, 1) := by decide +kernel
theorem dX8_cut_48 : decode cX8_cut 48 = .ok (.i2l, 1) := by decide +kernel
theorem dX8_cut_49 : decode cX8_cut 49 = .ok (.lreturn, 1) := by decide +kernel
theorem dX8_cut_50 : decode cX8_cut 50 = .ok (.lload_n 1, 1) := by decide +kernel
theorem dX8_cut_51 : decode cX8_cut 51 = .ok (.l2i, 1) := by decide +kernel
theorem dX8_cut_52 : decode cX8_cut 52 = .ok (.i2l, 1) := by decide +kernel
theorem dX8_cut_53 : decode cX8_cut 53 = .ok (.lreturn, 1) := by decide +kernel
theorem dX8_cut_54 : decode cX8_cut 54 = .ok (.lload_n 1, 1) := by decide +kernel
theorem dX8_cut_55 : decode cX8_cut 55 = .ok (.lconst 0, 1) := by decide +kernel
theorem dX8_cut_56 : decode cX8_cut 56 = .ok (.lcmp, 1) := by decide +kernel
theorem dX8_cut_57 : decode cX8_cut 57 = .ok (.ifCond .eq 7, 3) := by decide +kernel
theorem dX8_cut_60 : decode cX8_cut 60 = .ok (.lconst 1, 1) := by decide +kernel
theorem dX8_cut_61 : decode cX8_cut 61 = .ok (.goto 4, 3) := by decide +kernel
theorem dX8_cut_64 : decode cX8_cut 64 = .ok (.lconst 0, 1) := by decide +kernel
theorem dX8_cut_65 : decode cX8_cut 65 = .ok (.lreturn, 1) := by decide +kernel
theorem dX8_cut_66 : decode cX8_cut 66 = .ok (.lload_n 1, 1) := by decide +kernel
theorem dX8_cut_67 : decode cX8_cut 67 = .ok (.lreturn, 1) := by decide +kernel
theorem dX9_init_0 : decode cX9_init 0 = .ok (.aload_n 0, 1) := by decide +kernel
theorem dX9_init_1 : decode cX9_init 1 = .ok (.invokespecial 3, 3) := by decide +kernel
theorem dX9_init_4 : decode cX9_init 4 = .ok (.aload_n 0, 1) := by decide +kernel
theorem dX9_init_5 : decode cX9_init 5 = .ok (.new 9, 3) := by decide +kernel
theorem dX9_init_8 : decode cX9_init 8 = .ok (.dup, 1) := by decide +kernel
theorem dX9_init_9 : decode cX9_init 9 = .ok (.invokespecial 11, 3) := by decide +kernel
theorem dX9_init_12 : decode cX9_init 12 = .ok (.putfield 12, 3) := by decide +kernel
theorem dX9_init_15 : decode cX9_init 15 = .ok (.aload_n 0, 1) := by decide +kernel
theorem dX9_init_16 : decode cX9_init 16 = .ok (.new 9, 3) := by decide +kernel
theorem dX9_init_19 : decode cX9_init 19 = .ok (.dup, 1) := by decide +kernel
theorem dX9_init_20 : decode cX9_init 20 = .ok (.invokespecial 11, 3) := by decide +kernel
theorem dX9_init_23 : decode cX9_init 23 = .ok (.putfield 18, 3) := by decide +kernel
theorem dX9_init_26 : decode cX9_init 26 = .ok (.aload_n 0, 1) := by decide +kernel
theorem dX9_init_27 : decode cX9_init 27 = .ok (.iconst 0, 1) := by decide +kernel
theorem dX9_init_28 : decode cX9_init 28 = .ok (.putfield 21, 3) := by decide +kernel
theorem dX9_init_31 : decode cX9_init 31 = .ok (.aload_n 0, 1) := by decide +kernel
theorem dX9_init_32 : decode cX9_init 32 = .ok (.new 25, 3) := by decide +kernel
theorem dX9_init_35 : decode cX9_init 35 = .ok (.dup, 1) := by decide +kernel
theorem dX9_init_36 : decode cX9_init 36 = .ok (.invokespecial 27, 3) := by decide +kernel
theorem dX9_init_39 : decode cX9_init 39 = .ok (.putfield 28, 3) := by decide +kernel
theorem dX9_init_42 : decode cX9_init 42 = .ok (.aload_n 0, 1) := by decide +kernel
theorem dX9_init_43 : decode cX9_init 43 = .ok (.bipush 6, 2) := by decide +kernel
theorem dX9_init_45 : decode cX9_init 45 = .ok (.anewarray 32, 3) := by decide +kernel
theorem dX9_init_48 : decode cX9_init 48 = .ok (.putfield 34, 3) := by decide +kernel
theorem dX9_init_51 : decode cX9_init 51 = .ok (.aload_n 0, 1) := by decide +kernel
theorem dX9_init_52 : decode cX9_init 52 = .ok (.iconst 0, 1) := by decide +kernel
theorem dX9_init_53 : decode cX9_init 53 = .ok (.putfield 38, 3) := by decide +kernel
theorem dX9_init_56 : decode cX9_init 56 = .ok (.aload_n 0, 1) := by decide +kernel
theorem dX9_init_57 : decode cX9_init 57 = .ok (.new 42, 3) := by decide +kernel
theorem dX9_init_60 : decode cX9_init 60 = .ok (.dup, 1) := by decide +kernel
theorem dX9_init_61 : decode cX9_init 61 = .ok (.aload_n 0, 1) := by decide +kernel
theorem dX9_init_62 : decode cX9_init 62 = .ok (.getfield 12, 3) := by decide +kernel
theorem dX9_init_65 : decode cX9_init 65 = .ok (.invokespecial 44, 3) := by decide +kernel
theorem dX9_init_68 : decode cX9_init 68 = .ok (.putfield 47, 3) := by decide +kernel
theorem dX9_init_71 : decode cX9_init 71 = .ok (.aload_n 0, 1) := by decide +kernel
theorem dX9_init_72 : decode cX9_init 72 = .ok (.new 51, 3) := by decide +kernel
theorem dX9_init_75 : decode cX9_init 75 = .ok (.dup, 1) := by decide +kernel
theorem dX9_init_76 : decode cX9_init 76 = .ok (.aload_n 0, 1) := by decide +kernel
theorem dX9_init_77 : decode cX9_init 77 = .ok (.getfield 12, 3) := by decide +kernel
theorem dX9_init_80 : decode cX9_init 80 = .ok (.invokespecial 53, 3) := by decide +kernel
theorem dX9_init_83 : decode cX9_init 83 = .ok (.putfield 54, 3) := by decide +kernel
theorem dX9_init_86 : decode cX9_init 86 = .ok (.aload_n 0, 1) := by decide +kernel
theorem dX9_init_87 : decode cX9_init 87 = .ok (.new 58, 3) := by decide +kernel
theorem dX9_init_90 : decode cX9_init 90 = .ok (.dup, 1) := by decide +kernel
theorem dX9_init_91 : decode cX9_init 91 = .ok (.invokespecial 60, 3) := by decide +kernel
theorem dX9_init_94 : decode cX9_init 94 = .ok (.putfield 61, 3) := by decide +kernel
theorem dX9_init_97 : decode cX9_init 97 = .ok (.aload_n 0, 1) := by decide +kernel
theorem dX9_init_98 : decode cX9_init 98 = .ok (.bipush 6, 2) := by decide +kernel
theorem dX9_init_100 : decode cX9_init 100 = .ok (.anewarray 65, 3) := by decide +kernel
theorem dX9_init_103 : decode cX9_init 103 = .ok (.putfield 67, 3) := by decide +kernel
theorem dX9_init_106 : decode cX9_init 106 = .ok (.iconst 0, 1) := by decide +kernel
theorem dX9_init_107 : decode cX9_init 107 = .ok (.istore_n 1, 1) := by decide +kernel
theorem dX9_init_108 : decode cX9_init 108 = .ok (.iload_n 1, 1) := by decide +kernel
theorem dX9_init_109 : decode cX9_init 109 = .ok (.bipush 6, 2) := by decide +kernel
theorem dX9_init_111 : decode cX9_init 111 = .ok (.if_icmp .ge 22, 3) := by decide +kernel
theorem dX9_init_114 : decode cX9_init 114 = .ok (.aload_n 0, 1) := by decide +kernel
theorem dX9_init_115 : decode cX9_init 115 = .ok (.getfield 34, 3) := by decide +kernel
theorem dX9_init_118 : decode cX9_init 118 = .ok (.iload_n 1, 1) := by decide +kernel
theorem dX9_init_119 : decode cX9_init 119 = .ok (.new 32, 3) := by decide +kernel
theorem dX9_init_122 : decode cX9_init 122 = .ok (.dup, 1) := by decide +kernel
theorem dX9_init_123 : decode cX9_init 123 = .ok (.invokespecial 71, 3) := by decide +kernel
theorem dX9_init_126 : decode cX9_init 126 = .ok (.aastore, 1) := by decide +kernel
theorem dX9_init_127 : decode cX9_init 127 = .ok (.iinc 1 1, 3) := by decide +kernel
theorem dX9_init_130 : decode cX9_init 130 = .ok (.goto (-22), 3) := by decide +kernel
theorem dX9_init_133 : decode cX9_init 133 = .ok (.iconst 0, 1) := by decide +kernel
theorem dX9_init_134 : decode cX9_init 134 = .ok (.istore_n 1, 1) := by decide +kernel
theorem dX9_init_135 : decode cX9_init 135 = .ok (.iload_n 1, 1) := by decide +kernel
theorem dX9_init_136 : decode cX9_init 136 = .ok (.bipush 6, 2) := by decide +kernel
theorem dX9_init_138 : decode cX9_init 138 = .ok (.if_icmp .ge 22, 3) := by decide +kernel
theorem dX9_init_141 : decode cX9_init 141 = .ok (.aload_n 0, 1) := by decide +kernel
theorem dX9_init_142 : decode cX9_init 142 = .ok (.getfield 67, 3) := by decide +kernel
theorem dX9_init_145 : decode cX9_init 145 = .ok (.iload_n 1, 1) := by decide +kernel
theorem dX9_init_146 : decode cX9_init 146 = .ok (.new 65, 3) := by decide +kernel
theorem dX9_init_149 : decode cX9_init 149 = .ok (.dup, 1) := by decide +kernel
theorem dX9_init_150 : decode cX9_init 150 = .ok (.invokespecial 72, 3) := by decide +kernel
theorem dX9_init_153 : decode cX9_init 153 = .ok (.aastore, 1) := by decide +kernel
theorem dX9_init_154 : decode cX9_init 154 = .ok (.iinc 1 1, 3) := by decide +kernel
theorem dX9_init_157 : decode cX9_init 157 = .ok (.goto (-22), 3) := by decide +kernel
theorem dX9_init_160 : decode cX9_init 160 = .ok (.return_, 1) := by decide +kernel
theorem dX9_clock_0 : decode cX9_clock 0 = .ok (.iload_n 1, 1) := by decide +kernel
theorem dX9_clock_1 : decode cX9_clock 1 = .ok (.iconst 0, 1) := by decide +kernel
theorem dX9_clock_2 : decode cX9_clock 2 = .ok (.bipush 6, 2) := by decide +kernel
theorem dX9_clock_4 : decode cX9_clock 4 = .ok (.invokestatic 73, 3) := by decide +kernel
theorem dX9_clock_7 : decode cX9_clock 7 = .ok (.ifCond .ne 5, 3) := by decide +kernel
theorem dX9_clock_10 : decode cX9_clock 10 = .ok (.iconst (-1), 1) := by decide +kernel
theorem dX9_clock_11 : decode cX9_clock 11 = .ok (.ireturn, 1) := by decide +kernel
theorem dX9_clock_12 : decode cX9_clock 12 = .ok (.iload_n 2, 1) := by decide +kernel
theorem dX9_clock_13 : decode cX9_clock 13 = .ok (.iconst 0, 1) := by decide +kernel
theorem dX9_clock_14 : decode cX9_clock 14 = .ok (.bipush 9, 2) := by decide +kernel
theorem dX9_clock_16 : decode cX9_clock 16 = .ok (.invokestatic 73, 3) := by decide +kernel
theorem dX9_clock_19 : decode cX9_clock 19 = .ok (.ifCond .eq 21, 3) := by decide +kernel
theorem dX9_clock_22 : decode cX9_clock 22 = .ok (.iload_n 3, 1) := by decide +kernel
theorem dX9_clock_23 : decode cX9_clock 23 = .ok (.iconst 0, 1) := by decide +kernel
theorem dX9_clock_24 : decode cX9_clock 24 = .ok (.aload_n 0, 1) := by decide +kernel
theorem dX9_clock_25 : decode cX9_clock 25 = .ok (.getfield 12, 3) := by decide +kernel
theorem dX9_clock_28 : decode cX9_clock 28 = .ok (.getfield 77, 3) := by decide +kernel
theorem dX9_clock_31 : decode cX9_clock 31 = .ok (.getfield 81, 3) := by decide +kernel
theorem dX9_clock_34 : decode cX9_clock 34 = .ok (.invokestatic 73, 3) := by decide +kernel
theorem dX9_clock_37 : decode cX9_clock 37 = .ok (.ifCond .ne 6, 3) := by decide +kernel
theorem dX9_clock_40 : decode cX9_clock 40 = .ok (.bipush (-2), 2) := by decide +kernel
theorem dX9_clock_42 : decode cX9_clock 42 = .ok (.ireturn, 1) := by decide +kernel
theorem dX9_clock_43 : decode cX9_clock 43 = .ok (.aload_n 0, 1) := by decide +kernel
theorem dX9_clock_44 : decode cX9_clock 44 = .ok (.getfield 12, 3) := by decide +kernel
theorem dX9_clock_47 : decode cX9_clock 47 = .ok (.getfield 86, 3) := by decide +kernel
theorem dX9_clock_50 : decode cX9_clock 50 = .ok (.bipush 6, 2) := by decide +kernel
theorem dX9_clock_52 : decode cX9_clock 52 = .ok (.if_icmp .lt 6, 3) := by decide +kernel
theorem dX9_clock_55 : decode cX9_clock 55 = .ok (.bipush (-4), 2) := by decide +kernel
theorem dX9_clock_57 : decode cX9_clock 57 = .ok (.ireturn, 1) := by decide +kernel
theorem dX9_clock_58 : decode cX9_clock 58 = .ok (.aload_n 0, 1) := by decide +kernel
theorem dX9_clock_59 : decode cX9_clock 59 = .ok (.getfield 12, 3) := by decide +kernel
theorem dX9_clock_62 : decode cX9_clock 62 = .ok (.iload_n 1, 1) := by decide +kernel
theorem dX9_clock_63 : decode cX9_clock 63 = .ok (.iload_n 2, 1) := by decide +kernel
theorem dX9_clock_64 : decode cX9_clock 64 = .ok (.iload_n 3, 1) := by decide +kernel
theorem dX9_clock_65 : decode cX9_clock 65 = .ok (.invokevirtual 89, 3) := by decide +kernel
theorem dX9_clock_68 : decode cX9_clock 68 = .ok (.ireturn, 1) := by decide +kernel
theorem dX9_of_0 : decode cX9_of 0 = .ok (.aload_n 0, 1) := by decide +kernel
theorem dX9_of_1 : decode cX9_of 1 = .ok (.iload_n 1, 1) := by decide +kernel
theorem dX9_of_2 : decode cX9_of 2 = .ok (.invokevirtual 93, 3) := by decide +kernel
theorem dX9_of_5 : decode cX9_of 5 = .ok (.ifCond .ne 5, 3) := by decide +kernel
theorem dX9_of_8 : decode cX9_of 8 = .ok (.iconst (-1), 1) := by decide +kernel
theorem dX9_of_9 : decode cX9_of 9 = .ok (.ireturn, 1) := by decide +kernel
theorem dX9_of_10 : decode cX9_of 10 = .ok (.iload_n 2, 1) := by decide +kernel
theorem dX9_of_11 : decode cX9_of 11 = .ok (.tableswitch 152 0 7 #[45, 55, 65, 78, 99, 115, 134, 143], 45) := by decide +kernel
theorem dX9_of_56 : decode cX9_of 56 = .ok (.aload_n 0, 1) := by decide +kernel
theorem dX9_of_57 : decode cX9_of 57 = .ok (.getfield 12, 3) := by decide +kernel
theorem dX9_of_60 : decode cX9_of 60 = .ok (.getfield 97, 3) := by decide +kernel
theorem dX9_of_63 : decode cX9_of 63 = .ok (.iload_n 1, 1) := by decide +kernel
theorem dX9_of_64 : decode cX9_of 64 = .ok (.iaload, 1) := by decide +kernel
theorem dX9_of_65 : decode cX9_of 65 = .ok (.ireturn, 1) := by decide +kernel
theorem dX9_of_66 : decode cX9_of 66 = .ok (.aload_n 0, 1) := by decide +kernel
theorem dX9_of_67 : decode cX9_of 67 = .ok (.getfield 12, 3) := by decide +kernel
theorem dX9_of_70 : decode cX9_of 70 = .ok (.getfield 101, 3) := by decide +kernel
theorem dX9_of_73 : decode cX9_of 73 = .ok (.iload_n 1, 1) := by decide +kernel
theorem dX9_of_74 : decode cX9_of 74 = .ok (.iaload, 1) := by decide +kernel
theorem dX9_of_75 : decode cX9_of 75 = .ok (.ireturn, 1) := by decide +kernel
theorem dX9_of_76 : decode cX9_of 76 = .ok (.aload_n 0, 1) := by decide +kernel
theorem dX9_of_77 : decode cX9_of 77 = .ok (.getfield 12, 3) := by decide +kernel
theorem dX9_of_80 : decode cX9_of 80 = .ok (.getfield 77, 3) := by decide +kernel
theorem dX9_of_83 : decode cX9_of 83 = .ok (.getfield 104, 3) := by decide +kernel
theorem dX9_of_86 : decode cX9_of 86 = .ok (.iload_n 1, 1) := by decide +kernel
theorem dX9_of_87 : decode cX9_of 87 = .ok (.iaload, 1) := by decide +kernel
theorem dX9_of_88 : decode cX9_of 88 = .ok (.ireturn, 1) := by decide +kernel
theorem dX9_of_89 : decode cX9_of 89 = .ok (.aload_n 0, 1) := by decide +kernel
theorem dX9_of_90 : decode cX9_of 90 = .ok (.getfield 12, 3) := by decide +kernel
theorem dX9_of_93 : decode cX9_of 93 = .ok (.getfield 77, 3) := by decide +kernel
theorem dX9_of_96 : decode cX9_of 96 = .ok (.getfield 107, 3) := by decide +kernel
theorem dX9_of_99 : decode cX9_of 99 = .ok (.iload_n 1, 1) := by decide +kernel
theorem dX9_of_100 : decode cX9_of 100 = .ok (.baload, 1) := by decide +kernel
theorem dX9_of_101 : decode cX9_of 101 = .ok (.ifCond .eq 7, 3) := by decide +kernel
theorem dX9_of_104 : decode cX9_of 104 = .ok (.iconst 1, 1) := by decide +kernel
theorem dX9_of_105 : decode cX9_of 105 = .ok (.goto 4, 3) := by decide +kernel
theorem dX9_of_108 : decode cX9_of 108 = .ok (.iconst 0, 1) := by decide +kernel
theorem dX9_of_109 : decode cX9_of 109 = .ok (.ireturn, 1) := by decide +kernel
theorem dX9_of_110 : decode cX9_of 110 = .ok (.aload_n 0, 1) := by decide +kernel
theorem dX9_of_111 : decode cX9_of 111 = .ok (.getfield 12, 3) := by decide +kernel
theorem dX9_of_114 : decode cX9_of 114 = .ok (.aload_n 0, 1) := by decide +kernel
theorem dX9_of_115 : decode cX9_of 115 = .ok (.getfield 12, 3) := by decide +kernel
theorem dX9_of_118 : decode cX9_of 118 = .ok (.getfield 77, 3) := by decide +kernel
theorem dX9_of_121 : decode cX9_of 121 = .ok (.iload_n 1, 1) := by decide +kernel
theorem dX9_of_122 : decode cX9_of 122 = .ok (.invokevirtual 111, 3) := by decide +kernel
theorem dX9_of_125 : decode cX9_of 125 = .ok (.ireturn, 1) := by decide +kernel
theorem dX9_of_126 : decode cX9_of 126 = .ok (.aload_n 0, 1) := by decide +kernel
theorem dX9_of_127 : decode cX9_of 127 = .ok (.getfield 12, 3) := by decide +kernel
theorem dX9_of_130 : decode cX9_of 130 = .ok (.iload_n 1, 1) := by decide +kernel
theorem dX9_of_131 : decode cX9_of 131 = .ok (.aload_n 0, 1) := by decide +kernel
theorem dX9_of_132 : decode cX9_of 132 = .ok (.getfield 12, 3) := by decide +kernel
theorem dX9_of_135 : decode cX9_of 135 = .ok (.getfield 77, 3) := by decide +kernel
theorem dX9_of_138 : decode cX9_of 138 = .ok (.getfield 81, 3) := by decide +kernel
theorem dX9_of_141 : decode cX9_of 141 = .ok (.invokevirtual 115, 3) := by decide +kernel
theorem dX9_of_144 : decode cX9_of 144 = .ok (.ireturn, 1) := by decide +kernel
theorem dX9_of_145 : decode cX9_of 145 = .ok (.aload_n 0, 1) := by decide +kernel
theorem dX9_of_146 : decode cX9_of 146 = .ok (.getfield 47, 3) := by decide +kernel
theorem dX9_of_149 : decode cX9_of 149 = .ok (.iload_n 1, 1) := by decide +kernel
theorem dX9_of_150 : decode cX9_of 150 = .ok (.invokevirtual 119, 3) := by decide +kernel
theorem dX9_of_153 : decode cX9_of 153 = .ok (.ireturn, 1) := by decide +kernel
theorem dX9_of_154 : decode cX9_of 154 = .ok (.aload_n 0, 1) := by decide +kernel
theorem dX9_of_155 : decode cX9_of 155 = .ok (.getfield 47, 3) := by decide +kernel
theorem dX9_of_158 : decode cX9_of 158 = .ok (.iload_n 1, 1) := by decide +kernel
theorem dX9_of_159 : decode cX9_of 159 = .ok (.invokevirtual 123, 3) := by decide +kernel
theorem dX9_of_162 : decode cX9_of 162 = .ok (.ireturn, 1) := by decide +kernel
theorem dX9_of_163 : decode cX9_of 163 = .ok (.iconst (-1), 1) := by decide +kernel
theorem dX9_of_164 : decode cX9_of 164 = .ok (.ireturn, 1) := by decide +kernel
theorem dX9_news_0 : decode cX9_news 0 = .ok (.aload_n 0, 1) := by decide +kernel
theorem dX9_news_1 : decode cX9_news 1 = .ok (.iload_n 1, 1) := by decide +kernel
theorem dX9_news_2 : decode cX9_news 2 = .ok (.invokevirtual 93, 3) := by decide +kernel
theorem dX9_news_5 : decode cX9_news 5 = .ok (.ifCond .ne 5, 3) := by decide +kernel
theorem dX9_news_8 : decode cX9_news 8 = .ok (.iconst (-1), 1) := by decide +kernel
theorem dX9_news_9 : decode cX9_news 9 = .ok (.ireturn, 1) := by decide +kernel
theorem dX9_news_10 : decode cX9_news 10 = .ok (.iload_n 2, 1) := by decide +kernel
theorem dX9_news_11 : decode cX9_news 11 = .ok (.iconst 0, 1) := by decide +kernel
theorem dX9_news_12 : decode cX9_news 12 = .ok (.sipush 9999, 3) := by decide +kernel
theorem dX9_news_15 : decode cX9_news 15 = .ok (.invokestatic 73, 3) := by decide +kernel
theorem dX9_news_18 : decode cX9_news 18 = .ok (.ifCond .eq 15, 3) := by decide +kernel
theorem dX9_news_21 : decode cX9_news 21 = .ok (.aload_n 0, 1) := by decide +kernel
theorem dX9_news_22 : decode cX9_news 22 = .ok (.getfield 12, 3) := by decide +kernel
theorem dX9_news_25 : decode cX9_news 25 = .ok (.iload_n 1, 1) := by decide +kernel
theorem dX9_news_26 : decode cX9_news 26 = .ok (.iload_n 2, 1) := by decide +kernel
theorem dX9_news_27 : decode cX9_news 27 = .ok (.invokevirtual 126, 3) := by decide +kernel
theorem dX9_news_30 : decode cX9_news 30 = .ok (.goto 5, 3) := by decide +kernel
theorem dX9_news_33 : decode cX9_news 33 = .ok (.bipush (-2), 2) := by decide +kernel
theorem dX9_news_35 : decode cX9_news 35 = .ok (.ireturn, 1) := by decide +kernel
theorem dX9_set_0 : decode cX9_set 0 = .ok (.aload_n 0, 1) := by decide +kernel
theorem dX9_set_1 : decode cX9_set 1 = .ok (.iload_n 1, 1) := by decide +kernel
theorem dX9_set_2 : decode cX9_set 2 = .ok (.invokevirtual 93, 3) := by decide +kernel
theorem dX9_set_5 : decode cX9_set 5 = .ok (.ifCond .ne 5, 3) := by decide +kernel
theorem dX9_set_8 : decode cX9_set 8 = .ok (.iconst (-1), 1) := by decide +kernel
theorem dX9_set_9 : decode cX9_set 9 = .ok (.ireturn, 1) := by decide +kernel
theorem dX9_set_10 : decode cX9_set 10 = .ok (.iload_n 2, 1) := by decide +kernel
theorem dX9_set_11 : decode cX9_set 11 = .ok (.iconst 0, 1) := by decide +kernel
theorem dX9_set_12 : decode cX9_set 12 = .ok (.aload_n 0, 1) := by decide +kernel
theorem dX9_set_13 : decode cX9_set 13 = .ok (.getfield 12, 3) := by decide +kernel
theorem dX9_set_16 : decode cX9_set 16 = .ok (.getfield 77, 3) := by decide +kernel
theorem dX9_set_19 : decode cX9_set 19 = .ok (.getfield 81, 3) := by decide +kernel
theorem dX9_set_22 : decode cX9_set 22 = .ok (.invokestatic 73, 3) := by decide +kernel
theorem dX9_set_25 : decode cX9_set 25 = .ok (.ifCond .ne 6, 3) := by decide +kernel
theorem dX9_set_28 : decode cX9_set 28 = .ok (.bipush (-2), 2) := by decide +kernel
theorem dX9_set_30 : decode cX9_set 30 = .ok (.ireturn, 1) := by decide +kernel
theorem dX9_set_31 : decode cX9_set 31 = .ok (.aload_n 0, 1) := by decide +kernel
theorem dX9_set_32 : decode cX9_set 32 = .ok (.getfield 12, 3) := by decide +kernel
theorem dX9_set_35 : decode cX9_set 35 = .ok (.getfield 77, 3) := by decide +kernel
theorem dX9_set_38 : decode cX9_set 38 = .ok (.getfield 104, 3) := by decide +kernel
theorem dX9_set_41 : decode cX9_set 41 = .ok (.iload_n 1, 1) := by decide +kernel
theorem dX9_set_42 : decode cX9_set 42 = .ok (.iaload, 1) := by decide +kernel
theorem dX9_set_43 : decode cX9_set 43 = .ok (.istore_n 3, 1) := by decide +kernel
theorem dX9_set_44 : decode cX9_set 44 = .ok (.aload_n 0, 1) := by decide +kernel
theorem dX9_set_45 : decode cX9_set 45 = .ok (.getfield 12, 3) := by decide +kernel
theorem dX9_set_48 : decode cX9_set 48 = .ok (.getfield 77, 3) := by decide +kernel
theorem dX9_set_51 : decode cX9_set 51 = .ok (.getfield 104, 3) := by decide +kernel
theorem dX9_set_54 : decode cX9_set 54 = .ok (.iload_n 1, 1) := by decide +kernel
theorem dX9_set_55 : decode cX9_set 55 = .ok (.iload_n 2, 1) := by decide +kernel
theorem dX9_set_56 : decode cX9_set 56 = .ok (.iastore, 1) := by decide +kernel
theorem dX9_set_57 : decode cX9_set 57 = .ok (.iload_n 3, 1) := by decide +kernel
theorem dX9_set_58 : decode cX9_set 58 = .ok (.ireturn, 1) := by decide +kernel
theorem dX9_balk_0 : decode cX9_balk 0 = .ok (.aload_n 0, 1) := by decide +kernel
theorem dX9_balk_1 : decode cX9_balk 1 = .ok (.iload_n 1, 1) := by decide +kernel
theorem dX9_balk_2 : decode cX9_balk 2 = .ok (.invokevirtual 93, 3) := by decide +kernel
theorem dX9_balk_5 : decode cX9_balk 5 = .ok (.ifCond .ne 5, 3) := by decide +kernel
theorem dX9_balk_8 : decode cX9_balk 8 = .ok (.iconst (-1), 1) := by decide +kernel
theorem dX9_balk_9 : decode cX9_balk 9 = .ok (.ireturn, 1) := by decide +kernel
theorem dX9_balk_10 : decode cX9_balk 10 = .ok (.aload_n 0, 1) := by decide +kernel
theorem dX9_balk_11 : decode cX9_balk 11 = .ok (.getfield 12, 3) := by decide +kernel
theorem dX9_balk_14 : decode cX9_balk 14 = .ok (.getfield 77, 3) := by decide +kernel
theorem dX9_balk_17 : decode cX9_balk 17 = .ok (.getfield 107, 3) := by decide +kernel
theorem dX9_balk_20 : decode cX9_balk 20 = .ok (.iload_n 1, 1) := by decide +kernel
theorem dX9_balk_21 : decode cX9_balk 21 = .ok (.baload, 1) := by decide +kernel
theorem dX9_balk_22 : decode cX9_balk 22 = .ok (.ifCond .eq 7, 3) := by decide +kernel
theorem dX9_balk_25 : decode cX9_balk 25 = .ok (.iconst 1, 1) := by decide +kernel
theorem dX9_balk_26 : decode cX9_balk 26 = .ok (.goto 4, 3) := by decide +kernel
theorem dX9_balk_29 : decode cX9_balk 29 = .ok (.iconst 0, 1) := by decide +kernel
theorem dX9_balk_30 : decode cX9_balk 30 = .ok (.istore_n 3, 1) := by decide +kernel
theorem dX9_balk_31 : decode cX9_balk 31 = .ok (.aload_n 0, 1) := by decide +kernel
theorem dX9_balk_32 : decode cX9_balk 32 = .ok (.getfield 12, 3) := by decide +kernel
theorem dX9_balk_35 : decode cX9_balk 35 = .ok (.getfield 77, 3) := by decide +kernel
theorem dX9_balk_38 : decode cX9_balk 38 = .ok (.getfield 107, 3) := by decide +kernel
theorem dX9_balk_41 : decode cX9_balk 41 = .ok (.iload_n 1, 1) := by decide +kernel
theorem dX9_balk_42 : decode cX9_balk 42 = .ok (.iload_n 2, 1) := by decide +kernel
theorem dX9_balk_43 : decode cX9_balk 43 = .ok (.bastore, 1) := by decide +kernel
theorem dX9_balk_44 : decode cX9_balk 44 = .ok (.iload_n 3, 1) := by decide +kernel
theorem dX9_balk_45 : decode cX9_balk 45 = .ok (.ireturn, 1) := by decide +kernel
theorem dX9_row_0 : decode cX9_row 0 = .ok (.aload_n 0, 1) := by decide +kernel
theorem dX9_row_1 : decode cX9_row 1 = .ok (.iload_n 1, 1) := by decide +kernel
theorem dX9_row_2 : decode cX9_row 2 = .ok (.invokevirtual 93, 3) := by decide +kernel
theorem dX9_row_5 : decode cX9_row 5 = .ok (.ifCond .eq 12, 3) := by decide +kernel
theorem dX9_row_8 : decode cX9_row 8 = .ok (.iload_n 2, 1) := by decide +kernel
theorem dX9_row_9 : decode cX9_row 9 = .ok (.iconst 0, 1) := by decide +kernel
theorem dX9_row_10 : decode cX9_row 10 = .ok (.iconst 3, 1) := by decide +kernel
theorem dX9_row_11 : decode cX9_row 11 = .ok (.invokestatic 73, 3) := by decide +kernel
theorem dX9_row_14 : decode cX9_row 14 = .ok (.ifCond .ne 5, 3) := by decide +kernel
theorem dX9_row_17 : decode cX9_row 17 = .ok (.iconst (-1), 1) := by decide +kernel
theorem dX9_row_18 : decode cX9_row 18 = .ok (.ireturn, 1) := by decide +kernel
theorem dX9_row_19 : decode cX9_row 19 = .ok (.iload_n 3, 1) := by decide +kernel
theorem dX9_row_20 : decode cX9_row 20 = .ok (.iconst 0, 1) := by decide +kernel
theorem dX9_row_21 : decode cX9_row 21 = .ok (.bipush 9, 2) := by decide +kernel
theorem dX9_row_23 : decode cX9_row 23 = .ok (.invokestatic 73, 3) := by decide +kernel
theorem dX9_row_26 : decode cX9_row 26 = .ok (.ifCond .ne 6, 3) := by decide +kernel
theorem dX9_row_29 : decode cX9_row 29 = .ok (.bipush (-2), 2) := by decide +kernel
theorem dX9_row_31 : decode cX9_row 31 = .ok (.ireturn, 1) := by decide +kernel
theorem dX9_row_32 : decode cX9_row 32 = .ok (.aload_n 0, 1) := by decide +kernel
theorem dX9_row_33 : decode cX9_row 33 = .ok (.getfield 12, 3) := by decide +kernel
theorem dX9_row_36 : decode cX9_row 36 = .ok (.getfield 97, 3) := by decide +kernel
theorem dX9_row_39 : decode cX9_row 39 = .ok (.iload_n 1, 1) := by decide +kernel
theorem dX9_row_40 : decode cX9_row 40 = .ok (.iaload, 1) := by decide +kernel
theorem dX9_row_41 : decode cX9_row 41 = .ok (.bipush 6, 2) := by decide +kernel
theorem dX9_row_43 : decode cX9_row 43 = .ok (.if_icmp .eq 6, 3) := by decide +kernel
theorem dX9_row_46 : decode cX9_row 46 = .ok (.bipush (-3), 2) := by decide +kernel
theorem dX9_row_48 : decode cX9_row 48 = .ok (.ireturn, 1) := by decide +kernel
theorem dX9_row_49 : decode cX9_row 49 = .ok (.aload_n 0, 1) := by decide +kernel
theorem dX9_row_50 : decode cX9_row 50 = .ok (.getfield 12, 3) := by decide +kernel
theorem dX9_row_53 : decode cX9_row 53 = .ok (.getfield 129, 3) := by decide +kernel
theorem dX9_row_56 : decode cX9_row 56 = .ok (.iload_n 1, 1) := by decide +kernel
theorem dX9_row_57 : decode cX9_row 57 = .ok (.iconst 4, 1) := by decide +kernel
theorem dX9_row_58 : decode cX9_row 58 = .ok (.imul, 1) := by decide +kernel
theorem dX9_row_59 : decode cX9_row 59 = .ok (.iload_n 2, 1) := by decide +kernel
theorem dX9_row_60 : decode cX9_row 60 = .ok (.iadd, 1) := by decide +kernel
theorem dX9_row_61 : decode cX9_row 61 = .ok (.iaload, 1) := by decide +kernel
theorem dX9_row_62 : decode cX9_row 62 = .ok (.istore 4, 2) := by decide +kernel
theorem dX9_row_64 : decode cX9_row 64 = .ok (.aload_n 0, 1) := by decide +kernel
theorem dX9_row_65 : decode cX9_row 65 = .ok (.getfield 12, 3) := by decide +kernel
theorem dX9_row_68 : decode cX9_row 68 = .ok (.getfield 129, 3) := by decide +kernel
theorem dX9_row_71 : decode cX9_row 71 = .ok (.iload_n 1, 1) := by decide +kernel
theorem dX9_row_72 : decode cX9_row 72 = .ok (.iconst 4, 1) := by decide +kernel
theorem dX9_row_73 : decode cX9_row 73 = .ok (.imul, 1) := by decide +kernel
theorem dX9_row_74 : decode cX9_row 74 = .ok (.iload_n 2, 1) := by decide +kernel
theorem dX9_row_75 : decode cX9_row 75 = .ok (.iadd, 1) := by decide +kernel
theorem dX9_row_76 : decode cX9_row 76 = .ok (.iload_n 3, 1) := by decide +kernel
theorem dX9_row_77 : decode cX9_row 77 = .ok (.iastore, 1) := by decide +kernel
theorem dX9_row_78 : decode cX9_row 78 = .ok (.iload 4, 2) := by decide +kernel
theorem dX9_row_80 : decode cX9_row 80 = .ok (.ireturn, 1) := by decide +kernel
theorem dX9_feed_0 : decode cX9_feed 0 = .ok (.iload_n 1, 1) := by decide +kernel
theorem dX9_feed_1 : decode cX9_feed 1 = .ok (.iconst 0, 1) := by decide +kernel
theorem dX9_feed_2 : decode cX9_feed 2 = .ok (.bipush 127, 2) := by decide +kernel
theorem dX9_feed_4 : decode cX9_feed 4 = .ok (.invokestatic 73, 3) := by decide +kernel
theorem dX9_feed_7 : decode cX9_feed 7 = .ok (.ifCond .ne 6, 3) := by decide +kernel
theorem dX9_feed_10 : decode cX9_feed 10 = .ok (.bipush (-2), 2) := by decide +kernel
theorem dX9_feed_12 : decode cX9_feed 12 = .ok (.ireturn, 1) := by decide +kernel
theorem dX9_feed_13 : decode cX9_feed 13 = .ok (.aload_n 0, 1) := by decide +kernel
theorem dX9_feed_14 : decode cX9_feed 14 = .ok (.getfield 28, 3) := by decide +kernel
theorem dX9_feed_17 : decode cX9_feed 17 = .ok (.iload_n 1, 1) := by decide +kernel
theorem dX9_feed_18 : decode cX9_feed 18 = .ok (.i2b, 1) := by decide +kernel
theorem dX9_feed_19 : decode cX9_feed 19 = .ok (.invokevirtual 132, 3) := by decide +kernel
theorem dX9_feed_22 : decode cX9_feed 22 = .ok (.ifCond .eq 13, 3) := by decide +kernel
theorem dX9_feed_25 : decode cX9_feed 25 = .ok (.aload_n 0, 1) := by decide +kernel
theorem dX9_feed_26 : decode cX9_feed 26 = .ok (.getfield 28, 3) := by decide +kernel
theorem dX9_feed_29 : decode cX9_feed 29 = .ok (.getfield 136, 3) := by decide +kernel
theorem dX9_feed_32 : decode cX9_feed 32 = .ok (.goto 5, 3) := by decide +kernel
theorem dX9_feed_35 : decode cX9_feed 35 = .ok (.bipush (-4), 2) := by decide +kernel
theorem dX9_feed_37 : decode cX9_feed 37 = .ok (.ireturn, 1) := by decide +kernel
theorem dX9_bench_0 : decode cX9_bench 0 = .ok (.aload_n 0, 1) := by decide +kernel
theorem dX9_bench_1 : decode cX9_bench 1 = .ok (.getfield 38, 3) := by decide +kernel
theorem dX9_bench_4 : decode cX9_bench 4 = .ok (.bipush 6, 2) := by decide +kernel
theorem dX9_bench_6 : decode cX9_bench 6 = .ok (.if_icmp .lt 6, 3) := by decide +kernel
theorem dX9_bench_9 : decode cX9_bench 9 = .ok (.bipush (-4), 2) := by decide +kernel
theorem dX9_bench_11 : decode cX9_bench 11 = .ok (.ireturn, 1) := by decide +kernel
theorem dX9_bench_12 : decode cX9_bench 12 = .ok (.aload_n 0, 1) := by decide +kernel
theorem dX9_bench_13 : decode cX9_bench 13 = .ok (.getfield 34, 3) := by decide +kernel
theorem dX9_bench_16 : decode cX9_bench 16 = .ok (.aload_n 0, 1) := by decide +kernel
theorem dX9_bench_17 : decode cX9_bench 17 = .ok (.getfield 38, 3) := by decide +kernel
theorem dX9_bench_20 : decode cX9_bench 20 = .ok (.aaload, 1) := by decide +kernel
theorem dX9_bench_21 : decode cX9_bench 21 = .ok (.astore_n 1, 1) := by decide +kernel
theorem dX9_bench_22 : decode cX9_bench 22 = .ok (.aload_n 0, 1) := by decide +kernel
theorem dX9_bench_23 : decode cX9_bench 23 = .ok (.getfield 28, 3) := by decide +kernel
theorem dX9_bench_26 : decode cX9_bench 26 = .ok (.aload_n 1, 1) := by decide +kernel
theorem dX9_bench_27 : decode cX9_bench 27 = .ok (.invokevirtual 139, 3) := by decide +kernel
theorem dX9_bench_30 : decode cX9_bench 30 = .ok (.istore_n 2, 1) := by decide +kernel
theorem dX9_bench_31 : decode cX9_bench 31 = .ok (.aload_n 0, 1) := by decide +kernel
theorem dX9_bench_32 : decode cX9_bench 32 = .ok (.getfield 28, 3) := by decide +kernel
theorem dX9_bench_35 : decode cX9_bench 35 = .ok (.iconst 0, 1) := by decide +kernel
theorem dX9_bench_36 : decode cX9_bench 36 = .ok (.putfield 136, 3) := by decide +kernel
theorem dX9_bench_39 : decode cX9_bench 39 = .ok (.iload_n 2, 1) := by decide +kernel
theorem dX9_bench_40 : decode cX9_bench 40 = .ok (.ifCond .ne 14, 3) := by decide +kernel
theorem dX9_bench_43 : decode cX9_bench 43 = .ok (.bipush (-10), 2) := by decide +kernel
theorem dX9_bench_45 : decode cX9_bench 45 = .ok (.aload_n 0, 1) := by decide +kernel
theorem dX9_bench_46 : decode cX9_bench 46 = .ok (.getfield 28, 3) := by decide +kernel
theorem dX9_bench_49 : decode cX9_bench 49 = .ok (.getfield 143, 3) := by decide +kernel
theorem dX9_bench_52 : decode cX9_bench 52 = .ok (.isub, 1) := by decide +kernel
theorem dX9_bench_53 : decode cX9_bench 53 = .ok (.ireturn, 1) := by decide +kernel
theorem dX9_bench_54 : decode cX9_bench 54 = .ok (.aload_n 0, 1) := by decide +kernel
theorem dX9_bench_55 : decode cX9_bench 55 = .ok (.getfield 12, 3) := by decide +kernel
theorem dX9_bench_58 : decode cX9_bench 58 = .ok (.aload_n 1, 1) := by decide +kernel
theorem dX9_bench_59 : decode cX9_bench 59 = .ok (.invokevirtual 146, 3) := by decide +kernel
theorem dX9_bench_62 : decode cX9_bench 62 = .ok (.aload_n 0, 1) := by decide +kernel
theorem dX9_bench_63 : decode cX9_bench 63 = .ok (.dup, 1) := by decide +kernel
theorem dX9_bench_64 : decode cX9_bench 64 = .ok (.getfield 38, 3) := by decide +kernel
theorem dX9_bench_67 : decode cX9_bench 67 = .ok (.iconst 1, 1) := by decide +kernel
theorem dX9_bench_68 : decode cX9_bench 68 = .ok (.iadd, 1) := by decide +kernel
theorem dX9_bench_69 : decode cX9_bench 69 = .ok (.putfield 38, 3) := by decide +kernel
theorem dX9_bench_72 : decode cX9_bench 72 = .ok (.aload_n 0, 1) := by decide +kernel
theorem dX9_bench_73 : decode cX9_bench 73 = .ok (.getfield 38, 3) := by decide +kernel
theorem dX9_bench_76 : decode cX9_bench 76 = .ok (.iconst 1, 1) := by decide +kernel
theorem dX9_bench_77 : decode cX9_bench 77 = .ok (.isub, 1) := by decide +kernel
theorem dX9_bench_78 : decode cX9_bench 78 = .ok (.ireturn, 1) := by decide +kernel
theorem dX9_told_0 : decode cX9_told 0 = .ok (.iload_n 1, 1) := by decide +kernel
theorem dX9_told_1 : decode cX9_told 1 = .ok (.tableswitch 80 0 3 #[31, 42, 50, 65], 31) := by decide +kernel
theorem dX9_told_32 : decode cX9_told 32 = .ok (.aload_n 0, 1) := by decide +kernel
theorem dX9_told_33 : decode cX9_told 33 = .ok (.getfield 12, 3) := by decide +kernel
theorem dX9_told_36 : decode cX9_told 36 = .ok (.getfield 77, 3) := by decide +kernel
theorem dX9_told_39 : decode cX9_told 39 = .ok (.getfield 81, 3) := by decide +kernel
theorem dX9_told_42 : decode cX9_told 42 = .ok (.ireturn, 1) := by decide +kernel
theorem dX9_told_43 : decode cX9_told 43 = .ok (.aload_n 0, 1) := by decide +kernel
theorem dX9_told_44 : decode cX9_told 44 = .ok (.getfield 12, 3) := by decide +kernel
theorem dX9_told_47 : decode cX9_told 47 = .ok (.invokevirtual 150, 3) := by decide +kernel
theorem dX9_told_50 : decode cX9_told 50 = .ok (.ireturn, 1) := by decide +kernel
theorem dX9_told_51 : decode cX9_told 51 = .ok (.aload_n 0, 1) := by decide +kernel
theorem dX9_told_52 : decode cX9_told 52 = .ok (.getfield 12, 3) := by decide +kernel
theorem dX9_told_55 : decode cX9_told 55 = .ok (.aload_n 0, 1) := by decide +kernel
theorem dX9_told_56 : decode cX9_told 56 = .ok (.getfield 12, 3) := by decide +kernel
theorem dX9_told_59 : decode cX9_told 59 = .ok (.getfield 77, 3) := by decide +kernel
theorem dX9_told_62 : decode cX9_told 62 = .ok (.invokevirtual 154, 3) := by decide +kernel
theorem dX9_told_65 : decode cX9_told 65 = .ok (.ireturn, 1) := by decide +kernel
theorem dX9_told_66 : decode cX9_told 66 = .ok (.aload_n 0, 1) := by decide +kernel
theorem dX9_told_67 : decode cX9_told 67 = .ok (.getfield 12, 3) := by decide +kernel
theorem dX9_told_70 : decode cX9_told 70 = .ok (.aload_n 0, 1) := by decide +kernel
theorem dX9_told_71 : decode cX9_told 71 = .ok (.getfield 12, 3) := by decide +kernel
theorem dX9_told_74 : decode cX9_told 74 = .ok (.getfield 77, 3) := by decide +kernel
theorem dX9_told_77 : decode cX9_told 77 = .ok (.invokevirtual 158, 3) := by decide +kernel
theorem dX9_told_80 : decode cX9_told 80 = .ok (.ireturn, 1) := by decide +kernel
theorem dX9_told_81 : decode cX9_told 81 = .ok (.iconst (-1), 1) := by decide +kernel
theorem dX9_told_82 : decode cX9_told 82 = .ok (.ireturn, 1) := by decide +kernel
theorem dX9_tell_0 : decode cX9_tell 0 = .ok (.aload_n 0, 1) := by decide +kernel
theorem dX9_tell_1 : decode cX9_tell 1 = .ok (.iload_n 1, 1) := by decide +kernel
theorem dX9_tell_2 : decode cX9_tell 2 = .ok (.invokevirtual 93, 3) := by decide +kernel
theorem dX9_tell_5 : decode cX9_tell 5 = .ok (.ifCond .ne 5, 3) := by decide +kernel
theorem dX9_tell_8 : decode cX9_tell 8 = .ok (.iconst (-1), 1) := by decide +kernel
theorem dX9_tell_9 : decode cX9_tell 9 = .ok (.ireturn, 1) := by decide +kernel
theorem dX9_tell_10 : decode cX9_tell 10 = .ok (.aload_n 0, 1) := by decide +kernel
theorem dX9_tell_11 : decode cX9_tell 11 = .ok (.getfield 12, 3) := by decide +kernel
theorem dX9_tell_14 : decode cX9_tell 14 = .ok (.getfield 77, 3) := by decide +kernel
theorem dX9_tell_17 : decode cX9_tell 17 = .ok (.getfield 81, 3) := by decide +kernel
theorem dX9_tell_20 : decode cX9_tell 20 = .ok (.sipush 9999, 3) := by decide +kernel
theorem dX9_tell_23 : decode cX9_tell 23 = .ok (.if_icmp .lt 6, 3) := by decide +kernel
theorem dX9_tell_26 : decode cX9_tell 26 = .ok (.bipush (-3), 2) := by decide +kernel
theorem dX9_tell_28 : decode cX9_tell 28 = .ok (.ireturn, 1) := by decide +kernel
theorem dX9_tell_29 : decode cX9_tell 29 = .ok (.aload_n 0, 1) := by decide +kernel
theorem dX9_tell_30 : decode cX9_tell 30 = .ok (.getfield 12, 3) := by decide +kernel
theorem dX9_tell_33 : decode cX9_tell 33 = .ok (.aload_n 0, 1) := by decide +kernel
theorem dX9_tell_34 : decode cX9_tell 34 = .ok (.getfield 12, 3) := by decide +kernel
theorem dX9_tell_37 : decode cX9_tell 37 = .ok (.getfield 77, 3) := by decide +kernel
theorem dX9_tell_40 : decode cX9_tell 40 = .ok (.iload_n 1, 1) := by decide +kernel
theorem dX9_tell_41 : decode cX9_tell 41 = .ok (.invokevirtual 161, 3) := by decide +kernel
theorem dX9_tell_44 : decode cX9_tell 44 = .ok (.ireturn, 1) := by decide +kernel
theorem dX9_pass_0 : decode cX9_pass 0 = .ok (.iload_n 1, 1) := by decide +kernel
theorem dX9_pass_1 : decode cX9_pass 1 = .ok (.iconst 0, 1) := by decide +kernel
theorem dX9_pass_2 : decode cX9_pass 2 = .ok (.bipush 60, 2) := by decide +kernel
theorem dX9_pass_4 : decode cX9_pass 4 = .ok (.invokestatic 73, 3) := by decide +kernel
theorem dX9_pass_7 : decode cX9_pass 7 = .ok (.ifCond .ne 6, 3) := by decide +kernel
theorem dX9_pass_10 : decode cX9_pass 10 = .ok (.bipush (-2), 2) := by decide +kernel
theorem dX9_pass_12 : decode cX9_pass 12 = .ok (.ireturn, 1) := by decide +kernel
theorem dX9_pass_13 : decode cX9_pass 13 = .ok (.aload_n 0, 1) := by decide +kernel
theorem dX9_pass_14 : decode cX9_pass 14 = .ok (.getfield 12, 3) := by decide +kernel
theorem dX9_pass_17 : decode cX9_pass 17 = .ok (.getfield 77, 3) := by decide +kernel
theorem dX9_pass_20 : decode cX9_pass 20 = .ok (.getfield 81, 3) := by decide +kernel
theorem dX9_pass_23 : decode cX9_pass 23 = .ok (.iload_n 1, 1) := by decide +kernel
theorem dX9_pass_24 : decode cX9_pass 24 = .ok (.iadd, 1) := by decide +kernel
theorem dX9_pass_25 : decode cX9_pass 25 = .ok (.sipush 9999, 3) := by decide +kernel
theorem dX9_pass_28 : decode cX9_pass 28 = .ok (.if_icmp .le 6, 3) := by decide +kernel
theorem dX9_pass_31 : decode cX9_pass 31 = .ok (.bipush (-3), 2) := by decide +kernel
theorem dX9_pass_33 : decode cX9_pass 33 = .ok (.ireturn, 1) := by decide +kernel
theorem dX9_pass_34 : decode cX9_pass 34 = .ok (.iconst 0, 1) := by decide +kernel
theorem dX9_pass_35 : decode cX9_pass 35 = .ok (.istore_n 2, 1) := by decide +kernel
theorem dX9_pass_36 : decode cX9_pass 36 = .ok (.iload_n 2, 1) := by decide +kernel
theorem dX9_pass_37 : decode cX9_pass 37 = .ok (.iload_n 1, 1) := by decide +kernel
theorem dX9_pass_38 : decode cX9_pass 38 = .ok (.if_icmp .ge 23, 3) := by decide +kernel
theorem dX9_pass_41 : decode cX9_pass 41 = .ok (.aload_n 0, 1) := by decide +kernel
theorem dX9_pass_42 : decode cX9_pass 42 = .ok (.getfield 12, 3) := by decide +kernel
theorem dX9_pass_45 : decode cX9_pass 45 = .ok (.aload_n 0, 1) := by decide +kernel
theorem dX9_pass_46 : decode cX9_pass 46 = .ok (.getfield 12, 3) := by decide +kernel
theorem dX9_pass_49 : decode cX9_pass 49 = .ok (.getfield 77, 3) := by decide +kernel
theorem dX9_pass_52 : decode cX9_pass 52 = .ok (.invokevirtual 164, 3) := by decide +kernel
theorem dX9_pass_55 : decode cX9_pass 55 = .ok (.iinc 2 1, 3) := by decide +kernel
theorem dX9_pass_58 : decode cX9_pass 58 = .ok (.goto (-22), 3) := by decide +kernel
theorem dX9_pass_61 : decode cX9_pass 61 = .ok (.aload_n 0, 1) := by decide +kernel
theorem dX9_pass_62 : decode cX9_pass 62 = .ok (.getfield 12, 3) := by decide +kernel
theorem dX9_pass_65 : decode cX9_pass 65 = .ok (.getfield 77, 3) := by decide +kernel
theorem dX9_pass_68 : decode cX9_pass 68 = .ok (.getfield 81, 3) := by decide +kernel
theorem dX9_pass_71 : decode cX9_pass 71 = .ok (.ireturn, 1) := by decide +kernel
theorem dX9_on_0 : decode cX9_on 0 = .ok (.aload_n 0, 1) := by decide +kernel
theorem dX9_on_1 : decode cX9_on 1 = .ok (.iload_n 1, 1) := by decide +kernel
theorem dX9_on_2 : decode cX9_on 2 = .ok (.invokevirtual 93, 3) := by decide +kernel
theorem dX9_on_5 : decode cX9_on 5 = .ok (.ifCond .eq 12, 3) := by decide +kernel
theorem dX9_on_8 : decode cX9_on 8 = .ok (.iload_n 3, 1) := by decide +kernel
theorem dX9_on_9 : decode cX9_on 9 = .ok (.iconst 0, 1) := by decide +kernel
theorem dX9_on_10 : decode cX9_on 10 = .ok (.iconst 2, 1) := by decide +kernel
theorem dX9_on_11 : decode cX9_on 11 = .ok (.invokestatic 73, 3) := by decide +kernel
theorem dX9_on_14 : decode cX9_on 14 = .ok (.ifCond .ne 5, 3) := by decide +kernel
theorem dX9_on_17 : decode cX9_on 17 = .ok (.iconst (-1), 1) := by decide +kernel
theorem dX9_on_18 : decode cX9_on 18 = .ok (.ireturn, 1) := by decide +kernel
theorem dX9_on_19 : decode cX9_on 19 = .ok (.iload_n 2, 1) := by decide +kernel
theorem dX9_on_20 : decode cX9_on 20 = .ok (.iconst 0, 1) := by decide +kernel
theorem dX9_on_21 : decode cX9_on 21 = .ok (.bipush 60, 2) := by decide +kernel
theorem dX9_on_23 : decode cX9_on 23 = .ok (.invokestatic 73, 3) := by decide +kernel
theorem dX9_on_26 : decode cX9_on 26 = .ok (.ifCond .eq 16, 3) := by decide +kernel
theorem dX9_on_29 : decode cX9_on 29 = .ok (.aload_n 0, 1) := by decide +kernel
theorem dX9_on_30 : decode cX9_on 30 = .ok (.getfield 47, 3) := by decide +kernel
theorem dX9_on_33 : decode cX9_on 33 = .ok (.iload_n 1, 1) := by decide +kernel
theorem dX9_on_34 : decode cX9_on 34 = .ok (.iload_n 2, 1) := by decide +kernel
theorem dX9_on_35 : decode cX9_on 35 = .ok (.iload_n 3, 1) := by decide +kernel
theorem dX9_on_36 : decode cX9_on 36 = .ok (.invokevirtual 168, 3) := by decide +kernel
theorem dX9_on_39 : decode cX9_on 39 = .ok (.goto 5, 3) := by decide +kernel
theorem dX9_on_42 : decode cX9_on 42 = .ok (.bipush (-2), 2) := by decide +kernel
theorem dX9_on_44 : decode cX9_on 44 = .ok (.ireturn, 1) := by decide +kernel
theorem dX9_soonest_0 : decode cX9_soonest 0 = .ok (.iload_n 1, 1) := by decide +kernel
theorem dX9_soonest_1 : decode cX9_soonest 1 = .ok (.iconst (-1), 1) := by decide +kernel
theorem dX9_soonest_2 : decode cX9_soonest 2 = .ok (.iconst 5, 1) := by decide +kernel
theorem dX9_soonest_3 : decode cX9_soonest 3 = .ok (.invokestatic 73, 3) := by decide +kernel
theorem dX9_soonest_6 : decode cX9_soonest 6 = .ok (.ifCond .ne 5, 3) := by decide +kernel
theorem dX9_soonest_9 : decode cX9_soonest 9 = .ok (.iconst (-1), 1) := by decide +kernel
theorem dX9_soonest_10 : decode cX9_soonest 10 = .ok (.ireturn, 1) := by decide +kernel
theorem dX9_soonest_11 : decode cX9_soonest 11 = .ok (.iload_n 1, 1) := by decide +kernel
theorem dX9_soonest_12 : decode cX9_soonest 12 = .ok (.aload_n 0, 1) := by decide +kernel
theorem dX9_soonest_13 : decode cX9_soonest 13 = .ok (.getfield 12, 3) := by decide +kernel
theorem dX9_soonest_16 : decode cX9_soonest 16 = .ok (.getfield 86, 3) := by decide +kernel
theorem dX9_soonest_19 : decode cX9_soonest 19 = .ok (.if_icmp .lt 6, 3) := by decide +kernel
theorem dX9_soonest_22 : decode cX9_soonest 22 = .ok (.bipush (-5), 2) := by decide +kernel
theorem dX9_soonest_24 : decode cX9_soonest 24 = .ok (.ireturn, 1) := by decide +kernel
theorem dX9_soonest_25 : decode cX9_soonest 25 = .ok (.aload_n 0, 1) := by decide +kernel
theorem dX9_soonest_26 : decode cX9_soonest 26 = .ok (.getfield 54, 3) := by decide +kernel
theorem dX9_soonest_29 : decode cX9_soonest 29 = .ok (.invokevirtual 171, 3) := by decide +kernel
theorem dX9_soonest_32 : decode cX9_soonest 32 = .ok (.iload_n 1, 1) := by decide +kernel
theorem dX9_soonest_33 : decode cX9_soonest 33 = .ok (.ifCond .ge 13, 3) := by decide +kernel
theorem dX9_soonest_36 : decode cX9_soonest 36 = .ok (.aload_n 0, 1) := by decide +kernel
theorem dX9_soonest_37 : decode cX9_soonest 37 = .ok (.getfield 54, 3) := by decide +kernel
theorem dX9_soonest_40 : decode cX9_soonest 40 = .ok (.getfield 174, 3) := by decide +kernel
theorem dX9_soonest_43 : decode cX9_soonest 43 = .ok (.goto 12, 3) := by decide +kernel
theorem dX9_soonest_46 : decode cX9_soonest 46 = .ok (.aload_n 0, 1) := by decide +kernel
theorem dX9_soonest_47 : decode cX9_soonest 47 = .ok (.getfield 54, 3) := by decide +kernel
theorem dX9_soonest_50 : decode cX9_soonest 50 = .ok (.getfield 177, 3) := by decide +kernel
theorem dX9_soonest_53 : decode cX9_soonest 53 = .ok (.iload_n 1, 1) := by decide +kernel
theorem dX9_soonest_54 : decode cX9_soonest 54 = .ok (.iaload, 1) := by decide +kernel
theorem dX9_soonest_55 : decode cX9_soonest 55 = .ok (.ireturn, 1) := by decide +kernel
theorem dX9_most_0 : decode cX9_most 0 = .ok (.iload_n 2, 1) := by decide +kernel
theorem dX9_most_1 : decode cX9_most 1 = .ok (.iconst (-1), 1) := by decide +kernel
theorem dX9_most_2 : decode cX9_most 2 = .ok (.iconst 4, 1) := by decide +kernel
theorem dX9_most_3 : decode cX9_most 3 = .ok (.invokestatic 73, 3) := by decide +kernel
theorem dX9_most_6 : decode cX9_most 6 = .ok (.ifCond .ne 5, 3) := by decide +kernel
theorem dX9_most_9 : decode cX9_most 9 = .ok (.iconst (-1), 1) := by decide +kernel
theorem dX9_most_10 : decode cX9_most 10 = .ok (.ireturn, 1) := by decide +kernel
theorem dX9_most_11 : decode cX9_most 11 = .ok (.iload_n 1, 1) := by decide +kernel
theorem dX9_most_12 : decode cX9_most 12 = .ok (.iconst 1, 1) := by decide +kernel
theorem dX9_most_13 : decode cX9_most 13 = .ok (.iconst 5, 1) := by decide +kernel
theorem dX9_most_14 : decode cX9_most 14 = .ok (.invokestatic 73, 3) := by decide +kernel
theorem dX9_most_17 : decode cX9_most 17 = .ok (.ifCond .ne 6, 3) := by decide +kernel
theorem dX9_most_20 : decode cX9_most 20 = .ok (.bipush (-2), 2) := by decide +kernel
theorem dX9_most_22 : decode cX9_most 22 = .ok (.ireturn, 1) := by decide +kernel
theorem dX9_most_23 : decode cX9_most 23 = .ok (.iload_n 2, 1) := by decide +kernel
theorem dX9_most_24 : decode cX9_most 24 = .ok (.iload_n 1, 1) := by decide +kernel
theorem dX9_most_25 : decode cX9_most 25 = .ok (.if_icmp .ge 13, 3) := by decide +kernel
theorem dX9_most_28 : decode cX9_most 28 = .ok (.aload_n 0, 1) := by decide +kernel
theorem dX9_most_29 : decode cX9_most 29 = .ok (.getfield 12, 3) := by decide +kernel
theorem dX9_most_32 : decode cX9_most 32 = .ok (.getfield 86, 3) := by decide +kernel
theorem dX9_most_35 : decode cX9_most 35 = .ok (.ifCond .ne 6, 3) := by decide +kernel
theorem dX9_most_38 : decode cX9_most 38 = .ok (.bipush (-5), 2) := by decide +kernel
theorem dX9_most_40 : decode cX9_most 40 = .ok (.ireturn, 1) := by decide +kernel
theorem dX9_most_41 : decode cX9_most 41 = .ok (.aload_n 0, 1) := by decide +kernel
theorem dX9_most_42 : decode cX9_most 42 = .ok (.getfield 54, 3) := by decide +kernel
theorem dX9_most_45 : decode cX9_most 45 = .ok (.iload_n 1, 1) := by decide +kernel
theorem dX9_most_46 : decode cX9_most 46 = .ok (.invokevirtual 180, 3) := by decide +kernel
theorem dX9_most_49 : decode cX9_most 49 = .ok (.iload_n 2, 1) := by decide +kernel
theorem dX9_most_50 : decode cX9_most 50 = .ok (.ifCond .ge 13, 3) := by decide +kernel
theorem dX9_most_53 : decode cX9_most 53 = .ok (.aload_n 0, 1) := by decide +kernel
theorem dX9_most_54 : decode cX9_most 54 = .ok (.getfield 54, 3) := by decide +kernel
theorem dX9_most_57 : decode cX9_most 57 = .ok (.getfield 174, 3) := by decide +kernel
theorem dX9_most_60 : decode cX9_most 60 = .ok (.goto 12, 3) := by decide +kernel
theorem dX9_most_63 : decode cX9_most 63 = .ok (.aload_n 0, 1) := by decide +kernel
theorem dX9_most_64 : decode cX9_most 64 = .ok (.getfield 54, 3) := by decide +kernel
theorem dX9_most_67 : decode cX9_most 67 = .ok (.getfield 177, 3) := by decide +kernel
theorem dX9_most_70 : decode cX9_most 70 = .ok (.iload_n 2, 1) := by decide +kernel
theorem dX9_most_71 : decode cX9_most 71 = .ok (.iaload, 1) := by decide +kernel
theorem dX9_most_72 : decode cX9_most 72 = .ok (.ireturn, 1) := by decide +kernel
theorem dX9_next_0 : decode cX9_next 0 = .ok (.aload_n 0, 1) := by decide +kernel
theorem dX9_next_1 : decode cX9_next 1 = .ok (.getfield 47, 3) := by decide +kernel
theorem dX9_next_4 : decode cX9_next 4 = .ok (.invokevirtual 184, 3) := by decide +kernel
theorem dX9_next_7 : decode cX9_next 7 = .ok (.ireturn, 1) := by decide +kernel
theorem dX9_see_0 : decode cX9_see 0 = .ok (.iload_n 1, 1) := by decide +kernel
theorem dX9_see_1 : decode cX9_see 1 = .ok (.iconst (-1), 1) := by decide +kernel
theorem dX9_see_2 : decode cX9_see 2 = .ok (.if_icmp .ne 14, 3) := by decide +kernel
theorem dX9_see_5 : decode cX9_see 5 = .ok (.aload_n 0, 1) := by decide +kernel
theorem dX9_see_6 : decode cX9_see 6 = .ok (.getfield 12, 3) := by decide +kernel
theorem dX9_see_9 : decode cX9_see 9 = .ok (.getfield 187, 3) := by decide +kernel
theorem dX9_see_12 : decode cX9_see 12 = .ok (.invokevirtual 191, 3) := by decide +kernel
theorem dX9_see_15 : decode cX9_see 15 = .ok (.ireturn, 1) := by decide +kernel
theorem dX9_see_16 : decode cX9_see 16 = .ok (.aload_n 0, 1) := by decide +kernel
theorem dX9_see_17 : decode cX9_see 17 = .ok (.iload_n 1, 1) := by decide +kernel
theorem dX9_see_18 : decode cX9_see 18 = .ok (.invokevirtual 93, 3) := by decide +kernel
theorem dX9_see_21 : decode cX9_see 21 = .ok (.ifCond .ne 5, 3) := by decide +kernel
theorem dX9_see_24 : decode cX9_see 24 = .ok (.iconst (-1), 1) := by decide +kernel
theorem dX9_see_25 : decode cX9_see 25 = .ok (.ireturn, 1) := by decide +kernel
theorem dX9_see_26 : decode cX9_see 26 = .ok (.iload_n 2, 1) := by decide +kernel
theorem dX9_see_27 : decode cX9_see 27 = .ok (.iconst 0, 1) := by decide +kernel
theorem dX9_see_28 : decode cX9_see 28 = .ok (.sipush 999, 3) := by decide +kernel
theorem dX9_see_31 : decode cX9_see 31 = .ok (.invokestatic 73, 3) := by decide +kernel
theorem dX9_see_34 : decode cX9_see 34 = .ok (.ifCond .eq 13, 3) := by decide +kernel
theorem dX9_see_37 : decode cX9_see 37 = .ok (.iload_n 3, 1) := by decide +kernel
theorem dX9_see_38 : decode cX9_see 38 = .ok (.iconst 0, 1) := by decide +kernel
theorem dX9_see_39 : decode cX9_see 39 = .ok (.bipush 20, 2) := by decide +kernel
theorem dX9_see_41 : decode cX9_see 41 = .ok (.invokestatic 73, 3) := by decide +kernel
theorem dX9_see_44 : decode cX9_see 44 = .ok (.ifCond .ne 6, 3) := by decide +kernel
theorem dX9_see_47 : decode cX9_see 47 = .ok (.bipush (-2), 2) := by decide +kernel
theorem dX9_see_49 : decode cX9_see 49 = .ok (.ireturn, 1) := by decide +kernel
theorem dX9_see_50 : decode cX9_see 50 = .ok (.aload_n 0, 1) := by decide +kernel
theorem dX9_see_51 : decode cX9_see 51 = .ok (.getfield 12, 3) := by decide +kernel
theorem dX9_see_54 : decode cX9_see 54 = .ok (.getfield 187, 3) := by decide +kernel
theorem dX9_see_57 : decode cX9_see 57 = .ok (.iload_n 1, 1) := by decide +kernel
theorem dX9_see_58 : decode cX9_see 58 = .ok (.iload_n 2, 1) := by decide +kernel
theorem dX9_see_59 : decode cX9_see 59 = .ok (.iload_n 3, 1) := by decide +kernel
theorem dX9_see_60 : decode cX9_see 60 = .ok (.invokevirtual 196, 3) := by decide +kernel
theorem dX9_see_63 : decode cX9_see 63 = .ok (.ireturn, 1) := by decide +kernel
theorem dX9_since_0 : decode cX9_since 0 = .ok (.aload_n 0, 1) := by decide +kernel
theorem dX9_since_1 : decode cX9_since 1 = .ok (.iload_n 1, 1) := by decide +kernel
theorem dX9_since_2 : decode cX9_since 2 = .ok (.invokevirtual 93, 3) := by decide +kernel
theorem dX9_since_5 : decode cX9_since 5 = .ok (.ifCond .eq 12, 3) := by decide +kernel
theorem dX9_since_8 : decode cX9_since 8 = .ok (.iload_n 2, 1) := by decide +kernel
theorem dX9_since_9 : decode cX9_since 9 = .ok (.iconst 0, 1) := by decide +kernel
theorem dX9_since_10 : decode cX9_since 10 = .ok (.iconst 1, 1) := by decide +kernel
theorem dX9_since_11 : decode cX9_since 11 = .ok (.invokestatic 73, 3) := by decide +kernel
theorem dX9_since_14 : decode cX9_since 14 = .ok (.ifCond .ne 5, 3) := by decide +kernel
theorem dX9_since_17 : decode cX9_since 17 = .ok (.iconst (-1), 1) := by decide +kernel
theorem dX9_since_18 : decode cX9_since 18 = .ok (.ireturn, 1) := by decide +kernel
theorem dX9_since_19 : decode cX9_since 19 = .ok (.aload_n 0, 1) := by decide +kernel
theorem dX9_since_20 : decode cX9_since 20 = .ok (.getfield 47, 3) := by decide +kernel
theorem dX9_since_23 : decode cX9_since 23 = .ok (.iload_n 1, 1) := by decide +kernel
theorem dX9_since_24 : decode cX9_since 24 = .ok (.invokevirtual 199, 3) := by decide +kernel
theorem dX9_since_27 : decode cX9_since 27 = .ok (.iload_n 2, 1) := by decide +kernel
theorem dX9_since_28 : decode cX9_since 28 = .ok (.ifCond .ne 13, 3) := by decide +kernel
theorem dX9_since_31 : decode cX9_since 31 = .ok (.aload_n 0, 1) := by decide +kernel
theorem dX9_since_32 : decode cX9_since 32 = .ok (.getfield 47, 3) := by decide +kernel
theorem dX9_since_35 : decode cX9_since 35 = .ok (.getfield 202, 3) := by decide +kernel
theorem dX9_since_38 : decode cX9_since 38 = .ok (.goto 10, 3) := by decide +kernel
theorem dX9_since_41 : decode cX9_since 41 = .ok (.aload_n 0, 1) := by decide +kernel
theorem dX9_since_42 : decode cX9_since 42 = .ok (.getfield 47, 3) := by decide +kernel
theorem dX9_since_45 : decode cX9_since 45 = .ok (.getfield 205, 3) := by decide +kernel
theorem dX9_since_48 : decode cX9_since 48 = .ok (.ireturn, 1) := by decide +kernel
theorem dX9_can_0 : decode cX9_can 0 = .ok (.aload_n 0, 1) := by decide +kernel
theorem dX9_can_1 : decode cX9_can 1 = .ok (.iload_n 1, 1) := by decide +kernel
theorem dX9_can_2 : decode cX9_can 2 = .ok (.invokevirtual 93, 3) := by decide +kernel
theorem dX9_can_5 : decode cX9_can 5 = .ok (.ifCond .eq 12, 3) := by decide +kernel
theorem dX9_can_8 : decode cX9_can 8 = .ok (.iload_n 2, 1) := by decide +kernel
theorem dX9_can_9 : decode cX9_can 9 = .ok (.iconst 0, 1) := by decide +kernel
theorem dX9_can_10 : decode cX9_can 10 = .ok (.iconst 1, 1) := by decide +kernel
theorem dX9_can_11 : decode cX9_can 11 = .ok (.invokestatic 73, 3) := by decide +kernel
theorem dX9_can_14 : decode cX9_can 14 = .ok (.ifCond .ne 5, 3) := by decide +kernel
theorem dX9_can_17 : decode cX9_can 17 = .ok (.iconst (-1), 1) := by decide +kernel
theorem dX9_can_18 : decode cX9_can 18 = .ok (.ireturn, 1) := by decide +kernel
theorem dX9_can_19 : decode cX9_can 19 = .ok (.aload_n 0, 1) := by decide +kernel
theorem dX9_can_20 : decode cX9_can 20 = .ok (.getfield 47, 3) := by decide +kernel
theorem dX9_can_23 : decode cX9_can 23 = .ok (.iload_n 1, 1) := by decide +kernel
theorem dX9_can_24 : decode cX9_can 24 = .ok (.invokevirtual 208, 3) := by decide +kernel
theorem dX9_can_27 : decode cX9_can 27 = .ok (.iload_n 2, 1) := by decide +kernel
theorem dX9_can_28 : decode cX9_can 28 = .ok (.ifCond .ne 13, 3) := by decide +kernel
theorem dX9_can_31 : decode cX9_can 31 = .ok (.aload_n 0, 1) := by decide +kernel
theorem dX9_can_32 : decode cX9_can 32 = .ok (.getfield 47, 3) := by decide +kernel
theorem dX9_can_35 : decode cX9_can 35 = .ok (.getfield 202, 3) := by decide +kernel
theorem dX9_can_38 : decode cX9_can 38 = .ok (.goto 10, 3) := by decide +kernel
theorem dX9_can_41 : decode cX9_can 41 = .ok (.aload_n 0, 1) := by decide +kernel
theorem dX9_can_42 : decode cX9_can 42 = .ok (.getfield 47, 3) := by decide +kernel
theorem dX9_can_45 : decode cX9_can 45 = .ok (.getfield 205, 3) := by decide +kernel
theorem dX9_can_48 : decode cX9_can 48 = .ok (.ireturn, 1) := by decide +kernel
theorem dX9_odds_0 : decode cX9_odds 0 = .ok (.iload_n 1, 1) := by decide +kernel
theorem dX9_odds_1 : decode cX9_odds 1 = .ok (.iconst 0, 1) := by decide +kernel
theorem dX9_odds_2 : decode cX9_odds 2 = .ok (.bipush 60, 2) := by decide +kernel
theorem dX9_odds_4 : decode cX9_odds 4 = .ok (.invokestatic 73, 3) := by decide +kernel
theorem dX9_odds_7 : decode cX9_odds 7 = .ok (.ifCond .ne 7, 3) := by decide +kernel
theorem dX9_odds_10 : decode cX9_odds 10 = .ok (.ldc2_w 211, 3) := by decide +kernel
theorem dX9_odds_13 : decode cX9_odds 13 = .ok (.lreturn, 1) := by decide +kernel
theorem dX9_odds_14 : decode cX9_odds 14 = .ok (.aload_n 0, 1) := by decide +kernel
theorem dX9_odds_15 : decode cX9_odds 15 = .ok (.getfield 47, 3) := by decide +kernel
theorem dX9_odds_18 : decode cX9_odds 18 = .ok (.iload_n 1, 1) := by decide +kernel
theorem dX9_odds_19 : decode cX9_odds 19 = .ok (.invokevirtual 213, 3) := by decide +kernel
theorem dX9_odds_22 : decode cX9_odds 22 = .ok (.aload_n 0, 1) := by decide +kernel
theorem dX9_odds_23 : decode cX9_odds 23 = .ok (.getfield 12, 3) := by decide +kernel
theorem dX9_odds_26 : decode cX9_odds 26 = .ok (.getfield 86, 3) := by decide +kernel
theorem dX9_odds_29 : decode cX9_odds 29 = .ok (.iload_n 2, 1) := by decide +kernel
theorem dX9_odds_30 : decode cX9_odds 30 = .ok (.invokestatic 216, 3) := by decide +kernel
theorem dX9_odds_33 : decode cX9_odds 33 = .ok (.lreturn, 1) := by decide +kernel
theorem dX9_mean_0 : decode cX9_mean 0 = .ok (.aload_n 0, 1) := by decide +kernel
theorem dX9_mean_1 : decode cX9_mean 1 = .ok (.getfield 12, 3) := by decide +kernel
theorem dX9_mean_4 : decode cX9_mean 4 = .ok (.aload_n 0, 1) := by decide +kernel
theorem dX9_mean_5 : decode cX9_mean 5 = .ok (.getfield 12, 3) := by decide +kernel
theorem dX9_mean_8 : decode cX9_mean 8 = .ok (.getfield 77, 3) := by decide +kernel
theorem dX9_mean_11 : decode cX9_mean 11 = .ok (.invokevirtual 158, 3) := by decide +kernel
theorem dX9_mean_14 : decode cX9_mean 14 = .ok (.aload_n 0, 1) := by decide +kernel
theorem dX9_mean_15 : decode cX9_mean 15 = .ok (.getfield 12, 3) := by decide +kernel
theorem dX9_mean_18 : decode cX9_mean 18 = .ok (.getfield 86, 3) := by decide +kernel
theorem dX9_mean_21 : decode cX9_mean 21 = .ok (.iload_n 1, 1) := by decide +kernel
theorem dX9_mean_22 : decode cX9_mean 22 = .ok (.invokestatic 216, 3) := by decide +kernel
theorem dX9_mean_25 : decode cX9_mean 25 = .ok (.lreturn, 1) := by decide +kernel
theorem dX9_month_0 : decode cX9_month 0 = .ok (.iload_n 1, 1) := by decide +kernel
theorem dX9_month_1 : decode cX9_month 1 = .ok (.iconst (-1), 1) := by decide +kernel
theorem dX9_month_2 : decode cX9_month 2 = .ok (.if_icmp .ne 14, 3) := by decide +kernel
theorem dX9_month_5 : decode cX9_month 5 = .ok (.aload_n 0, 1) := by decide +kernel
theorem dX9_month_6 : decode cX9_month 6 = .ok (.getfield 12, 3) := by decide +kernel
theorem dX9_month_9 : decode cX9_month 9 = .ok (.getfield 220, 3) := by decide +kernel
theorem dX9_month_12 : decode cX9_month 12 = .ok (.invokevirtual 191, 3) := by decide +kernel
theorem dX9_month_15 : decode cX9_month 15 = .ok (.ireturn, 1) := by decide +kernel
theorem dX9_month_16 : decode cX9_month 16 = .ok (.aload_n 0, 1) := by decide +kernel
theorem dX9_month_17 : decode cX9_month 17 = .ok (.iload_n 1, 1) := by decide +kernel
theorem dX9_month_18 : decode cX9_month 18 = .ok (.invokevirtual 93, 3) := by decide +kernel
theorem dX9_month_21 : decode cX9_month 21 = .ok (.ifCond .ne 11, 3) := by decide +kernel
theorem dX9_month_24 : decode cX9_month 24 = .ok (.iload_n 1, 1) := by decide +kernel
theorem dX9_month_25 : decode cX9_month 25 = .ok (.bipush 6, 2) := by decide +kernel
theorem dX9_month_27 : decode cX9_month 27 = .ok (.if_icmp .eq 5, 3) := by decide +kernel
theorem dX9_month_30 : decode cX9_month 30 = .ok (.iconst (-1), 1) := by decide +kernel
theorem dX9_month_31 : decode cX9_month 31 = .ok (.ireturn, 1) := by decide +kernel
theorem dX9_month_32 : decode cX9_month 32 = .ok (.aload_n 0, 1) := by decide +kernel
theorem dX9_month_33 : decode cX9_month 33 = .ok (.getfield 12, 3) := by decide +kernel
theorem dX9_month_36 : decode cX9_month 36 = .ok (.getfield 220, 3) := by decide +kernel
theorem dX9_month_39 : decode cX9_month 39 = .ok (.iload_n 1, 1) := by decide +kernel
theorem dX9_month_40 : decode cX9_month 40 = .ok (.iconst 0, 1) := by decide +kernel
theorem dX9_month_41 : decode cX9_month 41 = .ok (.iconst 0, 1) := by decide +kernel
theorem dX9_month_42 : decode cX9_month 42 = .ok (.invokevirtual 196, 3) := by decide +kernel
theorem dX9_month_45 : decode cX9_month 45 = .ok (.ireturn, 1) := by decide +kernel
theorem dX9_ends_0 : decode cX9_ends 0 = .ok (.iload_n 1, 1) := by decide +kernel
theorem dX9_ends_1 : decode cX9_ends 1 = .ok (.iconst 0, 1) := by decide +kernel
theorem dX9_ends_2 : decode cX9_ends 2 = .ok (.iconst 1, 1) := by decide +kernel
theorem dX9_ends_3 : decode cX9_ends 3 = .ok (.invokestatic 73, 3) := by decide +kernel
theorem dX9_ends_6 : decode cX9_ends 6 = .ok (.ifCond .ne 5, 3) := by decide +kernel
theorem dX9_ends_9 : decode cX9_ends 9 = .ok (.iconst (-1), 1) := by decide +kernel
theorem dX9_ends_10 : decode cX9_ends 10 = .ok (.ireturn, 1) := by decide +kernel
theorem dX9_ends_11 : decode cX9_ends 11 = .ok (.aload_n 0, 1) := by decide +kernel
theorem dX9_ends_12 : decode cX9_ends 12 = .ok (.getfield 47, 3) := by decide +kernel
theorem dX9_ends_15 : decode cX9_ends 15 = .ok (.iload_n 1, 1) := by decide +kernel
theorem dX9_ends_16 : decode cX9_ends 16 = .ok (.invokevirtual 223, 3) := by decide +kernel
theorem dX9_ends_19 : decode cX9_ends 19 = .ok (.ireturn, 1) := by decide +kernel
theorem dX9_book_0 : decode cX9_book 0 = .ok (.iload_n 1, 1) := by decide +kernel
theorem dX9_book_1 : decode cX9_book 1 = .ok (.iconst (-1), 1) := by decide +kernel
theorem dX9_book_2 : decode cX9_book 2 = .ok (.if_icmp .ne 14, 3) := by decide +kernel
theorem dX9_book_5 : decode cX9_book 5 = .ok (.aload_n 0, 1) := by decide +kernel
theorem dX9_book_6 : decode cX9_book 6 = .ok (.getfield 12, 3) := by decide +kernel
theorem dX9_book_9 : decode cX9_book 9 = .ok (.getfield 226, 3) := by decide +kernel
theorem dX9_book_12 : decode cX9_book 12 = .ok (.invokevirtual 191, 3) := by decide +kernel
theorem dX9_book_15 : decode cX9_book 15 = .ok (.ireturn, 1) := by decide +kernel
theorem dX9_book_16 : decode cX9_book 16 = .ok (.aload_n 0, 1) := by decide +kernel
theorem dX9_book_17 : decode cX9_book 17 = .ok (.iload_n 1, 1) := by decide +kernel
theorem dX9_book_18 : decode cX9_book 18 = .ok (.invokevirtual 93, 3) := by decide +kernel
theorem dX9_book_21 : decode cX9_book 21 = .ok (.ifCond .ne 5, 3) := by decide +kernel
theorem dX9_book_24 : decode cX9_book 24 = .ok (.iconst (-1), 1) := by decide +kernel
theorem dX9_book_25 : decode cX9_book 25 = .ok (.ireturn, 1) := by decide +kernel
theorem dX9_book_26 : decode cX9_book 26 = .ok (.iload_n 2, 1) := by decide +kernel
theorem dX9_book_27 : decode cX9_book 27 = .ok (.iconst 0, 1) := by decide +kernel
theorem dX9_book_28 : decode cX9_book 28 = .ok (.sipush 9999, 3) := by decide +kernel
theorem dX9_book_31 : decode cX9_book 31 = .ok (.invokestatic 73, 3) := by decide +kernel
theorem dX9_book_34 : decode cX9_book 34 = .ok (.ifCond .ne 6, 3) := by decide +kernel
theorem dX9_book_37 : decode cX9_book 37 = .ok (.bipush (-2), 2) := by decide +kernel
theorem dX9_book_39 : decode cX9_book 39 = .ok (.ireturn, 1) := by decide +kernel
theorem dX9_book_40 : decode cX9_book 40 = .ok (.aload_n 0, 1) := by decide +kernel
theorem dX9_book_41 : decode cX9_book 41 = .ok (.getfield 12, 3) := by decide +kernel
theorem dX9_book_44 : decode cX9_book 44 = .ok (.getfield 226, 3) := by decide +kernel
theorem dX9_book_47 : decode cX9_book 47 = .ok (.iload_n 1, 1) := by decide +kernel
theorem dX9_book_48 : decode cX9_book 48 = .ok (.iload_n 2, 1) := by decide +kernel
theorem dX9_book_49 : decode cX9_book 49 = .ok (.iconst 0, 1) := by decide +kernel
theorem dX9_book_50 : decode cX9_book 50 = .ok (.invokevirtual 196, 3) := by decide +kernel
theorem dX9_book_53 : decode cX9_book 53 = .ok (.ireturn, 1) := by decide +kernel
theorem dX9_looked_0 : decode cX9_looked 0 = .ok (.iconst 0, 1) := by decide +kernel
theorem dX9_looked_1 : decode cX9_looked 1 = .ok (.istore_n 1, 1) := by decide +kernel
theorem dX9_looked_2 : decode cX9_looked 2 = .ok (.iload_n 1, 1) := by decide +kernel
theorem dX9_looked_3 : decode cX9_looked 3 = .ok (.aload_n 0, 1) := by decide +kernel
theorem dX9_looked_4 : decode cX9_looked 4 = .ok (.getfield 12, 3) := by decide +kernel
theorem dX9_looked_7 : decode cX9_looked 7 = .ok (.getfield 226, 3) := by decide +kernel
theorem dX9_looked_10 : decode cX9_looked 10 = .ok (.getfield 229, 3) := by decide +kernel
theorem dX9_looked_13 : decode cX9_looked 13 = .ok (.if_icmp .ge 49, 3) := by decide +kernel
theorem dX9_looked_16 : decode cX9_looked 16 = .ok (.aload_n 0, 1) := by decide +kernel
theorem dX9_looked_17 : decode cX9_looked 17 = .ok (.getfield 12, 3) := by decide +kernel
theorem dX9_looked_20 : decode cX9_looked 20 = .ok (.getfield 77, 3) := by decide +kernel
theorem dX9_looked_23 : decode cX9_looked 23 = .ok (.getfield 104, 3) := by decide +kernel
theorem dX9_looked_26 : decode cX9_looked 26 = .ok (.aload_n 0, 1) := by decide +kernel
theorem dX9_looked_27 : decode cX9_looked 27 = .ok (.getfield 12, 3) := by decide +kernel
theorem dX9_looked_30 : decode cX9_looked 30 = .ok (.getfield 226, 3) := by decide +kernel
theorem dX9_looked_33 : decode cX9_looked 33 = .ok (.iload_n 1, 1) := by decide +kernel
theorem dX9_looked_34 : decode cX9_looked 34 = .ok (.iconst 0, 1) := by decide +kernel
theorem dX9_looked_35 : decode cX9_looked 35 = .ok (.invokevirtual 232, 3) := by decide +kernel
theorem dX9_looked_38 : decode cX9_looked 38 = .ok (.iaload, 1) := by decide +kernel
theorem dX9_looked_39 : decode cX9_looked 39 = .ok (.aload_n 0, 1) := by decide +kernel
theorem dX9_looked_40 : decode cX9_looked 40 = .ok (.getfield 12, 3) := by decide +kernel
theorem dX9_looked_43 : decode cX9_looked 43 = .ok (.getfield 226, 3) := by decide +kernel
theorem dX9_looked_46 : decode cX9_looked 46 = .ok (.iload_n 1, 1) := by decide +kernel
theorem dX9_looked_47 : decode cX9_looked 47 = .ok (.iconst 1, 1) := by decide +kernel
theorem dX9_looked_48 : decode cX9_looked 48 = .ok (.invokevirtual 232, 3) := by decide +kernel
theorem dX9_looked_51 : decode cX9_looked 51 = .ok (.if_icmp .eq 5, 3) := by decide +kernel
theorem dX9_looked_54 : decode cX9_looked 54 = .ok (.iload_n 1, 1) := by decide +kernel
theorem dX9_looked_55 : decode cX9_looked 55 = .ok (.ireturn, 1) := by decide +kernel
theorem dX9_looked_56 : decode cX9_looked 56 = .ok (.iinc 1 1, 3) := by decide +kernel
theorem dX9_looked_59 : decode cX9_looked 59 = .ok (.goto (-57), 3) := by decide +kernel
theorem dX9_looked_62 : decode cX9_looked 62 = .ok (.bipush (-5), 2) := by decide +kernel
theorem dX9_looked_64 : decode cX9_looked 64 = .ok (.ireturn, 1) := by decide +kernel
theorem dX9_judge_0 : decode cX9_judge 0 = .ok (.iload_n 1, 1) := by decide +kernel
theorem dX9_judge_1 : decode cX9_judge 1 = .ok (.invokestatic 235, 3) := by decide +kernel
theorem dX9_judge_4 : decode cX9_judge 4 = .ok (.ifCond .ne 5, 3) := by decide +kernel
theorem dX9_judge_7 : decode cX9_judge 7 = .ok (.iconst (-1), 1) := by decide +kernel
theorem dX9_judge_8 : decode cX9_judge 8 = .ok (.ireturn, 1) := by decide +kernel
