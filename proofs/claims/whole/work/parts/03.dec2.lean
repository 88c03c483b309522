theorem dX12_clean_35 : decode cX12_clean 35 = .ok (.iload_n 2, 1) := by decide +kernel
theorem dX12_clean_36 : decode cX12_clean 36 = .ok (.if_icmp .ge 21, 3) := by decide +kernel
theorem dX12_clean_39 : decode cX12_clean 39 = .ok (.aload_n 0, 1) := by decide +kernel
theorem dX12_clean_40 : decode cX12_clean 40 = .ok (.getfield 16, 3) := by decide +kernel
theorem dX12_clean_43 : decode cX12_clean 43 = .ok (.aload_n 0, 1) := by decide +kernel
theorem dX12_clean_44 : decode cX12_clean 44 = .ok (.getfield 19, 3) := by decide +kernel
theorem dX12_clean_47 : decode cX12_clean 47 = .ok (.iload_n 3, 1) := by decide +kernel
theorem dX12_clean_48 : decode cX12_clean 48 = .ok (.iaload, 1) := by decide +kernel
theorem dX12_clean_49 : decode cX12_clean 49 = .ok (.iconst 0, 1) := by decide +kernel
theorem dX12_clean_50 : decode cX12_clean 50 = .ok (.iastore, 1) := by decide +kernel
theorem dX12_clean_51 : decode cX12_clean 51 = .ok (.iinc 3 1, 3) := by decide +kernel
theorem dX12_clean_54 : decode cX12_clean 54 = .ok (.goto (-20), 3) := by decide +kernel
theorem dX12_clean_57 : decode cX12_clean 57 = .ok (.iload_n 2, 1) := by decide +kernel
theorem dX12_clean_58 : decode cX12_clean 58 = .ok (.istore_n 3, 1) := by decide +kernel
theorem dX12_clean_59 : decode cX12_clean 59 = .ok (.iload_n 3, 1) := by decide +kernel
theorem dX12_clean_60 : decode cX12_clean 60 = .ok (.aload_n 0, 1) := by decide +kernel
theorem dX12_clean_61 : decode cX12_clean 61 = .ok (.getfield 162, 3) := by decide +kernel
theorem dX12_clean_64 : decode cX12_clean 64 = .ok (.if_icmp .ge 23, 3) := by decide +kernel
theorem dX12_clean_67 : decode cX12_clean 67 = .ok (.aload_n 0, 1) := by decide +kernel
theorem dX12_clean_68 : decode cX12_clean 68 = .ok (.getfield 19, 3) := by decide +kernel
theorem dX12_clean_71 : decode cX12_clean 71 = .ok (.iload_n 3, 1) := by decide +kernel
theorem dX12_clean_72 : decode cX12_clean 72 = .ok (.iload_n 2, 1) := by decide +kernel
theorem dX12_clean_73 : decode cX12_clean 73 = .ok (.isub, 1) := by decide +kernel
theorem dX12_clean_74 : decode cX12_clean 74 = .ok (.aload_n 0, 1) := by decide +kernel
theorem dX12_clean_75 : decode cX12_clean 75 = .ok (.getfield 19, 3) := by decide +kernel
theorem dX12_clean_78 : decode cX12_clean 78 = .ok (.iload_n 3, 1) := by decide +kernel
theorem dX12_clean_79 : decode cX12_clean 79 = .ok (.iaload, 1) := by decide +kernel
theorem dX12_clean_80 : decode cX12_clean 80 = .ok (.iastore, 1) := by decide +kernel
theorem dX12_clean_81 : decode cX12_clean 81 = .ok (.iinc 3 1, 3) := by decide +kernel
theorem dX12_clean_84 : decode cX12_clean 84 = .ok (.goto (-25), 3) := by decide +kernel
theorem dX12_clean_87 : decode cX12_clean 87 = .ok (.aload_n 0, 1) := by decide +kernel
theorem dX12_clean_88 : decode cX12_clean 88 = .ok (.dup, 1) := by decide +kernel
theorem dX12_clean_89 : decode cX12_clean 89 = .ok (.getfield 162, 3) := by decide +kernel
theorem dX12_clean_92 : decode cX12_clean 92 = .ok (.iload_n 2, 1) := by decide +kernel
theorem dX12_clean_93 : decode cX12_clean 93 = .ok (.isub, 1) := by decide +kernel
theorem dX12_clean_94 : decode cX12_clean 94 = .ok (.putfield 162, 3) := by decide +kernel
theorem dX12_clean_97 : decode cX12_clean 97 = .ok (.iload_n 2, 1) := by decide +kernel
theorem dX12_clean_98 : decode cX12_clean 98 = .ok (.ireturn, 1) := by decide +kernel
theorem dX12_cleaning_0 : decode cX12_cleaning 0 = .ok (.iload_n 1, 1) := by decide +kernel
theorem dX12_cleaning_1 : decode cX12_cleaning 1 = .ok (.i2l, 1) := by decide +kernel
theorem dX12_cleaning_2 : decode cX12_cleaning 2 = .ok (.lconst 0, 1) := by decide +kernel
theorem dX12_cleaning_3 : decode cX12_cleaning 3 = .ok (.aload_n 0, 1) := by decide +kernel
theorem dX12_cleaning_4 : decode cX12_cleaning 4 = .ok (.getfield 162, 3) := by decide +kernel
theorem dX12_cleaning_7 : decode cX12_cleaning 7 = .ok (.iconst 1, 1) := by decide +kernel
theorem dX12_cleaning_8 : decode cX12_cleaning 8 = .ok (.isub, 1) := by decide +kernel
theorem dX12_cleaning_9 : decode cX12_cleaning 9 = .ok (.i2l, 1) := by decide +kernel
theorem dX12_cleaning_10 : decode cX12_cleaning 10 = .ok (.invokestatic 147, 3) := by decide +kernel
theorem dX12_cleaning_13 : decode cX12_cleaning 13 = .ok (.ifCond .eq 12, 3) := by decide +kernel
theorem dX12_cleaning_16 : decode cX12_cleaning 16 = .ok (.aload_n 0, 1) := by decide +kernel
theorem dX12_cleaning_17 : decode cX12_cleaning 17 = .ok (.getfield 19, 3) := by decide +kernel
theorem dX12_cleaning_20 : decode cX12_cleaning 20 = .ok (.iload_n 1, 1) := by decide +kernel
theorem dX12_cleaning_21 : decode cX12_cleaning 21 = .ok (.iaload, 1) := by decide +kernel
theorem dX12_cleaning_22 : decode cX12_cleaning 22 = .ok (.goto 4, 3) := by decide +kernel
theorem dX12_cleaning_25 : decode cX12_cleaning 25 = .ok (.iconst (-1), 1) := by decide +kernel
theorem dX12_cleaning_26 : decode cX12_cleaning 26 = .ok (.ireturn, 1) := by decide +kernel
theorem dX12_plan_0 : decode cX12_plan 0 = .ok (.aload_n 0, 1) := by decide +kernel
theorem dX12_plan_1 : decode cX12_plan 1 = .ok (.iload_n 1, 1) := by decide +kernel
theorem dX12_plan_2 : decode cX12_plan 2 = .ok (.invokevirtual 156, 3) := by decide +kernel
theorem dX12_plan_5 : decode cX12_plan 5 = .ok (.ifCond .eq 6, 3) := by decide +kernel
theorem dX12_plan_8 : decode cX12_plan 8 = .ok (.bipush (-101), 2) := by decide +kernel
theorem dX12_plan_10 : decode cX12_plan 10 = .ok (.ireturn, 1) := by decide +kernel
theorem dX12_plan_11 : decode cX12_plan 11 = .ok (.iload_n 2, 1) := by decide +kernel
theorem dX12_plan_12 : decode cX12_plan 12 = .ok (.i2l, 1) := by decide +kernel
theorem dX12_plan_13 : decode cX12_plan 13 = .ok (.lconst 1, 1) := by decide +kernel
theorem dX12_plan_14 : decode cX12_plan 14 = .ok (.ldc2_w 165, 3) := by decide +kernel
theorem dX12_plan_17 : decode cX12_plan 17 = .ok (.invokestatic 147, 3) := by decide +kernel
theorem dX12_plan_20 : decode cX12_plan 20 = .ok (.ifCond .eq 13, 3) := by decide +kernel
theorem dX12_plan_23 : decode cX12_plan 23 = .ok (.iload_n 3, 1) := by decide +kernel
theorem dX12_plan_24 : decode cX12_plan 24 = .ok (.i2l, 1) := by decide +kernel
theorem dX12_plan_25 : decode cX12_plan 25 = .ok (.lconst 0, 1) := by decide +kernel
theorem dX12_plan_26 : decode cX12_plan 26 = .ok (.lconst 1, 1) := by decide +kernel
theorem dX12_plan_27 : decode cX12_plan 27 = .ok (.invokestatic 147, 3) := by decide +kernel
theorem dX12_plan_30 : decode cX12_plan 30 = .ok (.ifCond .ne 6, 3) := by decide +kernel
theorem dX12_plan_33 : decode cX12_plan 33 = .ok (.bipush (-102), 2) := by decide +kernel
theorem dX12_plan_35 : decode cX12_plan 35 = .ok (.ireturn, 1) := by decide +kernel
theorem dX12_plan_36 : decode cX12_plan 36 = .ok (.aload_n 0, 1) := by decide +kernel
theorem dX12_plan_37 : decode cX12_plan 37 = .ok (.getfield 167, 3) := by decide +kernel
theorem dX12_plan_40 : decode cX12_plan 40 = .ok (.bipush 30, 2) := by decide +kernel
theorem dX12_plan_42 : decode cX12_plan 42 = .ok (.if_icmp .ne 6, 3) := by decide +kernel
theorem dX12_plan_45 : decode cX12_plan 45 = .ok (.bipush (-104), 2) := by decide +kernel
theorem dX12_plan_47 : decode cX12_plan 47 = .ok (.ireturn, 1) := by decide +kernel
theorem dX12_plan_48 : decode cX12_plan 48 = .ok (.aload_n 0, 1) := by decide +kernel
theorem dX12_plan_49 : decode cX12_plan 49 = .ok (.getfield 22, 3) := by decide +kernel
theorem dX12_plan_52 : decode cX12_plan 52 = .ok (.aload_n 0, 1) := by decide +kernel
theorem dX12_plan_53 : decode cX12_plan 53 = .ok (.getfield 167, 3) := by decide +kernel
theorem dX12_plan_56 : decode cX12_plan 56 = .ok (.iload_n 1, 1) := by decide +kernel
theorem dX12_plan_57 : decode cX12_plan 57 = .ok (.iastore, 1) := by decide +kernel
theorem dX12_plan_58 : decode cX12_plan 58 = .ok (.aload_n 0, 1) := by decide +kernel
theorem dX12_plan_59 : decode cX12_plan 59 = .ok (.getfield 25, 3) := by decide +kernel
theorem dX12_plan_62 : decode cX12_plan 62 = .ok (.aload_n 0, 1) := by decide +kernel
theorem dX12_plan_63 : decode cX12_plan 63 = .ok (.getfield 167, 3) := by decide +kernel
theorem dX12_plan_66 : decode cX12_plan 66 = .ok (.iload_n 2, 1) := by decide +kernel
theorem dX12_plan_67 : decode cX12_plan 67 = .ok (.iastore, 1) := by decide +kernel
theorem dX12_plan_68 : decode cX12_plan 68 = .ok (.aload_n 0, 1) := by decide +kernel
theorem dX12_plan_69 : decode cX12_plan 69 = .ok (.getfield 28, 3) := by decide +kernel
theorem dX12_plan_72 : decode cX12_plan 72 = .ok (.aload_n 0, 1) := by decide +kernel
theorem dX12_plan_73 : decode cX12_plan 73 = .ok (.getfield 167, 3) := by decide +kernel
theorem dX12_plan_76 : decode cX12_plan 76 = .ok (.iload_n 3, 1) := by decide +kernel
theorem dX12_plan_77 : decode cX12_plan 77 = .ok (.iastore, 1) := by decide +kernel
theorem dX12_plan_78 : decode cX12_plan 78 = .ok (.aload_n 0, 1) := by decide +kernel
theorem dX12_plan_79 : decode cX12_plan 79 = .ok (.getfield 31, 3) := by decide +kernel
theorem dX12_plan_82 : decode cX12_plan 82 = .ok (.aload_n 0, 1) := by decide +kernel
theorem dX12_plan_83 : decode cX12_plan 83 = .ok (.getfield 167, 3) := by decide +kernel
theorem dX12_plan_86 : decode cX12_plan 86 = .ok (.iconst 0, 1) := by decide +kernel
theorem dX12_plan_87 : decode cX12_plan 87 = .ok (.iastore, 1) := by decide +kernel
theorem dX12_plan_88 : decode cX12_plan 88 = .ok (.aload_n 0, 1) := by decide +kernel
theorem dX12_plan_89 : decode cX12_plan 89 = .ok (.dup, 1) := by decide +kernel
theorem dX12_plan_90 : decode cX12_plan 90 = .ok (.getfield 167, 3) := by decide +kernel
theorem dX12_plan_93 : decode cX12_plan 93 = .ok (.iconst 1, 1) := by decide +kernel
theorem dX12_plan_94 : decode cX12_plan 94 = .ok (.iadd, 1) := by decide +kernel
theorem dX12_plan_95 : decode cX12_plan 95 = .ok (.putfield 167, 3) := by decide +kernel
theorem dX12_plan_98 : decode cX12_plan 98 = .ok (.aload_n 0, 1) := by decide +kernel
theorem dX12_plan_99 : decode cX12_plan 99 = .ok (.getfield 167, 3) := by decide +kernel
theorem dX12_plan_102 : decode cX12_plan 102 = .ok (.ireturn, 1) := by decide +kernel
theorem dX12_plans_0 : decode cX12_plans 0 = .ok (.aload_n 0, 1) := by decide +kernel
theorem dX12_plans_1 : decode cX12_plans 1 = .ok (.getfield 167, 3) := by decide +kernel
theorem dX12_plans_4 : decode cX12_plans 4 = .ok (.istore_n 2, 1) := by decide +kernel
theorem dX12_plans_5 : decode cX12_plans 5 = .ok (.aload_n 0, 1) := by decide +kernel
theorem dX12_plans_6 : decode cX12_plans 6 = .ok (.iload_n 1, 1) := by decide +kernel
theorem dX12_plans_7 : decode cX12_plans 7 = .ok (.ifCond .eq 7, 3) := by decide +kernel
theorem dX12_plans_10 : decode cX12_plans 10 = .ok (.iconst 0, 1) := by decide +kernel
theorem dX12_plans_11 : decode cX12_plans 11 = .ok (.goto 7, 3) := by decide +kernel
theorem dX12_plans_14 : decode cX12_plans 14 = .ok (.aload_n 0, 1) := by decide +kernel
theorem dX12_plans_15 : decode cX12_plans 15 = .ok (.getfield 167, 3) := by decide +kernel
theorem dX12_plans_18 : decode cX12_plans 18 = .ok (.putfield 167, 3) := by decide +kernel
theorem dX12_plans_21 : decode cX12_plans 21 = .ok (.iload_n 2, 1) := by decide +kernel
theorem dX12_plans_22 : decode cX12_plans 22 = .ok (.ireturn, 1) := by decide +kernel
theorem dX12_meets_0 : decode cX12_meets 0 = .ok (.iconst 0, 1) := by decide +kernel
theorem dX12_meets_1 : decode cX12_meets 1 = .ok (.istore_n 3, 1) := by decide +kernel
theorem dX12_meets_2 : decode cX12_meets 2 = .ok (.iconst 0, 1) := by decide +kernel
theorem dX12_meets_3 : decode cX12_meets 3 = .ok (.istore 4, 2) := by decide +kernel
theorem dX12_meets_5 : decode cX12_meets 5 = .ok (.iload 4, 2) := by decide +kernel
theorem dX12_meets_7 : decode cX12_meets 7 = .ok (.aload_n 0, 1) := by decide +kernel
theorem dX12_meets_8 : decode cX12_meets 8 = .ok (.getfield 167, 3) := by decide +kernel
theorem dX12_meets_11 : decode cX12_meets 11 = .ok (.if_icmp .ge 131, 3) := by decide +kernel
theorem dX12_meets_14 : decode cX12_meets 14 = .ok (.aload_n 0, 1) := by decide +kernel
theorem dX12_meets_15 : decode cX12_meets 15 = .ok (.getfield 22, 3) := by decide +kernel
theorem dX12_meets_18 : decode cX12_meets 18 = .ok (.iload 4, 2) := by decide +kernel
theorem dX12_meets_20 : decode cX12_meets 20 = .ok (.iaload, 1) := by decide +kernel
theorem dX12_meets_21 : decode cX12_meets 21 = .ok (.iload_n 1, 1) := by decide +kernel
theorem dX12_meets_22 : decode cX12_meets 22 = .ok (.if_icmp .ne 18, 3) := by decide +kernel
theorem dX12_meets_25 : decode cX12_meets 25 = .ok (.aload_n 0, 1) := by decide +kernel
theorem dX12_meets_26 : decode cX12_meets 26 = .ok (.getfield 28, 3) := by decide +kernel
theorem dX12_meets_29 : decode cX12_meets 29 = .ok (.iload 4, 2) := by decide +kernel
theorem dX12_meets_31 : decode cX12_meets 31 = .ok (.iaload, 1) := by decide +kernel
theorem dX12_meets_32 : decode cX12_meets 32 = .ok (.iload_n 2, 1) := by decide +kernel
theorem dX12_meets_33 : decode cX12_meets 33 = .ok (.if_icmp .ne 7, 3) := by decide +kernel
theorem dX12_meets_36 : decode cX12_meets 36 = .ok (.iconst 1, 1) := by decide +kernel
theorem dX12_meets_37 : decode cX12_meets 37 = .ok (.goto 4, 3) := by decide +kernel
theorem dX12_meets_40 : decode cX12_meets 40 = .ok (.iconst 0, 1) := by decide +kernel
theorem dX12_meets_41 : decode cX12_meets 41 = .ok (.istore 5, 2) := by decide +kernel
theorem dX12_meets_43 : decode cX12_meets 43 = .ok (.iload 5, 2) := by decide +kernel
theorem dX12_meets_45 : decode cX12_meets 45 = .ok (.ifCond .eq 15, 3) := by decide +kernel
theorem dX12_meets_48 : decode cX12_meets 48 = .ok (.aload_n 0, 1) := by decide +kernel
theorem dX12_meets_49 : decode cX12_meets 49 = .ok (.getfield 31, 3) := by decide +kernel
theorem dX12_meets_52 : decode cX12_meets 52 = .ok (.iload 4, 2) := by decide +kernel
theorem dX12_meets_54 : decode cX12_meets 54 = .ok (.iaload, 1) := by decide +kernel
theorem dX12_meets_55 : decode cX12_meets 55 = .ok (.iconst 1, 1) := by decide +kernel
theorem dX12_meets_56 : decode cX12_meets 56 = .ok (.iadd, 1) := by decide +kernel
theorem dX12_meets_57 : decode cX12_meets 57 = .ok (.goto 10, 3) := by decide +kernel
theorem dX12_meets_60 : decode cX12_meets 60 = .ok (.aload_n 0, 1) := by decide +kernel
theorem dX12_meets_61 : decode cX12_meets 61 = .ok (.getfield 31, 3) := by decide +kernel
theorem dX12_meets_64 : decode cX12_meets 64 = .ok (.iload 4, 2) := by decide +kernel
theorem dX12_meets_66 : decode cX12_meets 66 = .ok (.iaload, 1) := by decide +kernel
theorem dX12_meets_67 : decode cX12_meets 67 = .ok (.istore 6, 2) := by decide +kernel
theorem dX12_meets_69 : decode cX12_meets 69 = .ok (.iload 5, 2) := by decide +kernel
theorem dX12_meets_71 : decode cX12_meets 71 = .ok (.ifCond .eq 15, 3) := by decide +kernel
theorem dX12_meets_74 : decode cX12_meets 74 = .ok (.iload 6, 2) := by decide +kernel
theorem dX12_meets_76 : decode cX12_meets 76 = .ok (.aload_n 0, 1) := by decide +kernel
theorem dX12_meets_77 : decode cX12_meets 77 = .ok (.getfield 25, 3) := by decide +kernel
theorem dX12_meets_80 : decode cX12_meets 80 = .ok (.iload 4, 2) := by decide +kernel
theorem dX12_meets_82 : decode cX12_meets 82 = .ok (.iaload, 1) := by decide +kernel
theorem dX12_meets_83 : decode cX12_meets 83 = .ok (.if_icmp .ge 53, 3) := by decide +kernel
theorem dX12_meets_86 : decode cX12_meets 86 = .ok (.aload_n 0, 1) := by decide +kernel
theorem dX12_meets_87 : decode cX12_meets 87 = .ok (.getfield 22, 3) := by decide +kernel
theorem dX12_meets_90 : decode cX12_meets 90 = .ok (.iload_n 3, 1) := by decide +kernel
theorem dX12_meets_91 : decode cX12_meets 91 = .ok (.aload_n 0, 1) := by decide +kernel
theorem dX12_meets_92 : decode cX12_meets 92 = .ok (.getfield 22, 3) := by decide +kernel
theorem dX12_meets_95 : decode cX12_meets 95 = .ok (.iload 4, 2) := by decide +kernel
theorem dX12_meets_97 : decode cX12_meets 97 = .ok (.iaload, 1) := by decide +kernel
theorem dX12_meets_98 : decode cX12_meets 98 = .ok (.iastore, 1) := by decide +kernel
theorem dX12_meets_99 : decode cX12_meets 99 = .ok (.aload_n 0, 1) := by decide +kernel
theorem dX12_meets_100 : decode cX12_meets 100 = .ok (.getfield 25, 3) := by decide +kernel
theorem dX12_meets_103 : decode cX12_meets 103 = .ok (.iload_n 3, 1) := by decide +kernel
theorem dX12_meets_104 : decode cX12_meets 104 = .ok (.aload_n 0, 1) := by decide +kernel
theorem dX12_meets_105 : decode cX12_meets 105 = .ok (.getfield 25, 3) := by decide +kernel
theorem dX12_meets_108 : decode cX12_meets 108 = .ok (.iload 4, 2) := by decide +kernel
theorem dX12_meets_110 : decode cX12_meets 110 = .ok (.iaload, 1) := by decide +kernel
theorem dX12_meets_111 : decode cX12_meets 111 = .ok (.iastore, 1) := by decide +kernel
theorem dX12_meets_112 : decode cX12_meets 112 = .ok (.aload_n 0, 1) := by decide +kernel
theorem dX12_meets_113 : decode cX12_meets 113 = .ok (.getfield 28, 3) := by decide +kernel
theorem dX12_meets_116 : decode cX12_meets 116 = .ok (.iload_n 3, 1) := by decide +kernel
theorem dX12_meets_117 : decode cX12_meets 117 = .ok (.aload_n 0, 1) := by decide +kernel
theorem dX12_meets_118 : decode cX12_meets 118 = .ok (.getfield 28, 3) := by decide +kernel
theorem dX12_meets_121 : decode cX12_meets 121 = .ok (.iload 4, 2) := by decide +kernel
theorem dX12_meets_123 : decode cX12_meets 123 = .ok (.iaload, 1) := by decide +kernel
theorem dX12_meets_124 : decode cX12_meets 124 = .ok (.iastore, 1) := by decide +kernel
theorem dX12_meets_125 : decode cX12_meets 125 = .ok (.aload_n 0, 1) := by decide +kernel
theorem dX12_meets_126 : decode cX12_meets 126 = .ok (.getfield 31, 3) := by decide +kernel
theorem dX12_meets_129 : decode cX12_meets 129 = .ok (.iload_n 3, 1) := by decide +kernel
theorem dX12_meets_130 : decode cX12_meets 130 = .ok (.iload 6, 2) := by decide +kernel
theorem dX12_meets_132 : decode cX12_meets 132 = .ok (.iastore, 1) := by decide +kernel
theorem dX12_meets_133 : decode cX12_meets 133 = .ok (.iinc 3 1, 3) := by decide +kernel
theorem dX12_meets_136 : decode cX12_meets 136 = .ok (.iinc 4 1, 3) := by decide +kernel
theorem dX12_meets_139 : decode cX12_meets 139 = .ok (.goto (-134), 3) := by decide +kernel
theorem dX12_meets_142 : decode cX12_meets 142 = .ok (.iload_n 3, 1) := by decide +kernel
theorem dX12_meets_143 : decode cX12_meets 143 = .ok (.aload_n 0, 1) := by decide +kernel
theorem dX12_meets_144 : decode cX12_meets 144 = .ok (.getfield 167, 3) := by decide +kernel
theorem dX12_meets_147 : decode cX12_meets 147 = .ok (.if_icmp .ge 7, 3) := by decide +kernel
theorem dX12_meets_150 : decode cX12_meets 150 = .ok (.iconst 1, 1) := by decide +kernel
theorem dX12_meets_151 : decode cX12_meets 151 = .ok (.goto 4, 3) := by decide +kernel
theorem dX12_meets_154 : decode cX12_meets 154 = .ok (.iconst 0, 1) := by decide +kernel
theorem dX12_meets_155 : decode cX12_meets 155 = .ok (.istore 4, 2) := by decide +kernel
theorem dX12_meets_157 : decode cX12_meets 157 = .ok (.aload_n 0, 1) := by decide +kernel
theorem dX12_meets_158 : decode cX12_meets 158 = .ok (.iload_n 3, 1) := by decide +kernel
theorem dX12_meets_159 : decode cX12_meets 159 = .ok (.putfield 167, 3) := by decide +kernel
theorem dX12_meets_162 : decode cX12_meets 162 = .ok (.iload 4, 2) := by decide +kernel
theorem dX12_meets_164 : decode cX12_meets 164 = .ok (.ireturn, 1) := by decide +kernel
theorem dX12_comesBack_0 : decode cX12_comesBack 0 = .ok (.aload_n 0, 1) := by decide +kernel
theorem dX12_comesBack_1 : decode cX12_comesBack 1 = .ok (.iload_n 1, 1) := by decide +kernel
theorem dX12_comesBack_2 : decode cX12_comesBack 2 = .ok (.iconst 1, 1) := by decide +kernel
theorem dX12_comesBack_3 : decode cX12_comesBack 3 = .ok (.invokevirtual 170, 3) := by decide +kernel
theorem dX12_comesBack_6 : decode cX12_comesBack 6 = .ok (.istore 4, 2) := by decide +kernel
theorem dX12_comesBack_8 : decode cX12_comesBack 8 = .ok (.aload_n 0, 1) := by decide +kernel
theorem dX12_comesBack_9 : decode cX12_comesBack 9 = .ok (.getfield 16, 3) := by decide +kernel
theorem dX12_comesBack_12 : decode cX12_comesBack 12 = .ok (.iload_n 1, 1) := by decide +kernel
theorem dX12_comesBack_13 : decode cX12_comesBack 13 = .ok (.iload 4, 2) := by decide +kernel
theorem dX12_comesBack_15 : decode cX12_comesBack 15 = .ok (.ifCond .eq 7, 3) := by decide +kernel
theorem dX12_comesBack_18 : decode cX12_comesBack 18 = .ok (.iconst 3, 1) := by decide +kernel
theorem dX12_comesBack_19 : decode cX12_comesBack 19 = .ok (.goto 4, 3) := by decide +kernel
theorem dX12_comesBack_22 : decode cX12_comesBack 22 = .ok (.iconst 2, 1) := by decide +kernel
theorem dX12_comesBack_23 : decode cX12_comesBack 23 = .ok (.iastore, 1) := by decide +kernel
theorem dX12_comesBack_24 : decode cX12_comesBack 24 = .ok (.iload 4, 2) := by decide +kernel
theorem dX12_comesBack_26 : decode cX12_comesBack 26 = .ok (.ifCond .eq 22, 3) := by decide +kernel
theorem dX12_comesBack_29 : decode cX12_comesBack 29 = .ok (.aload_n 0, 1) := by decide +kernel
theorem dX12_comesBack_30 : decode cX12_comesBack 30 = .ok (.getfield 34, 3) := by decide +kernel
theorem dX12_comesBack_33 : decode cX12_comesBack 33 = .ok (.iload_n 3, 1) := by decide +kernel
theorem dX12_comesBack_34 : decode cX12_comesBack 34 = .ok (.dup2, 1) := by decide +kernel
theorem dX12_comesBack_35 : decode cX12_comesBack 35 = .ok (.laload, 1) := by decide +kernel
theorem dX12_comesBack_36 : decode cX12_comesBack 36 = .ok (.aload_n 0, 1) := by decide +kernel
theorem dX12_comesBack_37 : decode cX12_comesBack 37 = .ok (.getfield 13, 3) := by decide +kernel
theorem dX12_comesBack_40 : decode cX12_comesBack 40 = .ok (.iload_n 1, 1) := by decide +kernel
theorem dX12_comesBack_41 : decode cX12_comesBack 41 = .ok (.iaload, 1) := by decide +kernel
theorem dX12_comesBack_42 : decode cX12_comesBack 42 = .ok (.i2l, 1) := by decide +kernel
theorem dX12_comesBack_43 : decode cX12_comesBack 43 = .ok (.ladd, 1) := by decide +kernel
theorem dX12_comesBack_44 : decode cX12_comesBack 44 = .ok (.lastore, 1) := by decide +kernel
theorem dX12_comesBack_45 : decode cX12_comesBack 45 = .ok (.goto 23, 3) := by decide +kernel
theorem dX12_comesBack_48 : decode cX12_comesBack 48 = .ok (.aload_n 0, 1) := by decide +kernel
theorem dX12_comesBack_49 : decode cX12_comesBack 49 = .ok (.getfield 19, 3) := by decide +kernel
theorem dX12_comesBack_52 : decode cX12_comesBack 52 = .ok (.aload_n 0, 1) := by decide +kernel
theorem dX12_comesBack_53 : decode cX12_comesBack 53 = .ok (.getfield 162, 3) := by decide +kernel
theorem dX12_comesBack_56 : decode cX12_comesBack 56 = .ok (.iload_n 1, 1) := by decide +kernel
theorem dX12_comesBack_57 : decode cX12_comesBack 57 = .ok (.iastore, 1) := by decide +kernel
theorem dX12_comesBack_58 : decode cX12_comesBack 58 = .ok (.aload_n 0, 1) := by decide +kernel
theorem dX12_comesBack_59 : decode cX12_comesBack 59 = .ok (.dup, 1) := by decide +kernel
theorem dX12_comesBack_60 : decode cX12_comesBack 60 = .ok (.getfield 162, 3) := by decide +kernel
theorem dX12_comesBack_63 : decode cX12_comesBack 63 = .ok (.iconst 1, 1) := by decide +kernel
theorem dX12_comesBack_64 : decode cX12_comesBack 64 = .ok (.iadd, 1) := by decide +kernel
theorem dX12_comesBack_65 : decode cX12_comesBack 65 = .ok (.putfield 162, 3) := by decide +kernel
theorem dX12_comesBack_68 : decode cX12_comesBack 68 = .ok (.aload_n 0, 1) := by decide +kernel
theorem dX12_comesBack_69 : decode cX12_comesBack 69 = .ok (.getfield 174, 3) := by decide +kernel
theorem dX12_comesBack_72 : decode cX12_comesBack 72 = .ok (.bipush 60, 2) := by decide +kernel
theorem dX12_comesBack_74 : decode cX12_comesBack 74 = .ok (.irem, 1) := by decide +kernel
theorem dX12_comesBack_75 : decode cX12_comesBack 75 = .ok (.istore 5, 2) := by decide +kernel
theorem dX12_comesBack_77 : decode cX12_comesBack 77 = .ok (.aload_n 0, 1) := by decide +kernel
theorem dX12_comesBack_78 : decode cX12_comesBack 78 = .ok (.getfield 38, 3) := by decide +kernel
theorem dX12_comesBack_81 : decode cX12_comesBack 81 = .ok (.iload 5, 2) := by decide +kernel
theorem dX12_comesBack_83 : decode cX12_comesBack 83 = .ok (.iload_n 1, 1) := by decide +kernel
theorem dX12_comesBack_84 : decode cX12_comesBack 84 = .ok (.iastore, 1) := by decide +kernel
theorem dX12_comesBack_85 : decode cX12_comesBack 85 = .ok (.aload_n 0, 1) := by decide +kernel
theorem dX12_comesBack_86 : decode cX12_comesBack 86 = .ok (.getfield 41, 3) := by decide +kernel
theorem dX12_comesBack_89 : decode cX12_comesBack 89 = .ok (.iload 5, 2) := by decide +kernel
theorem dX12_comesBack_91 : decode cX12_comesBack 91 = .ok (.iload_n 2, 1) := by decide +kernel
theorem dX12_comesBack_92 : decode cX12_comesBack 92 = .ok (.iastore, 1) := by decide +kernel
theorem dX12_comesBack_93 : decode cX12_comesBack 93 = .ok (.aload_n 0, 1) := by decide +kernel
theorem dX12_comesBack_94 : decode cX12_comesBack 94 = .ok (.getfield 44, 3) := by decide +kernel
theorem dX12_comesBack_97 : decode cX12_comesBack 97 = .ok (.iload 5, 2) := by decide +kernel
theorem dX12_comesBack_99 : decode cX12_comesBack 99 = .ok (.iload 4, 2) := by decide +kernel
theorem dX12_comesBack_101 : decode cX12_comesBack 101 = .ok (.ifCond .eq 7, 3) := by decide +kernel
theorem dX12_comesBack_104 : decode cX12_comesBack 104 = .ok (.iconst 1, 1) := by decide +kernel
theorem dX12_comesBack_105 : decode cX12_comesBack 105 = .ok (.goto 4, 3) := by decide +kernel
theorem dX12_comesBack_108 : decode cX12_comesBack 108 = .ok (.iconst 0, 1) := by decide +kernel
theorem dX12_comesBack_109 : decode cX12_comesBack 109 = .ok (.iastore, 1) := by decide +kernel
theorem dX12_comesBack_110 : decode cX12_comesBack 110 = .ok (.aload_n 0, 1) := by decide +kernel
theorem dX12_comesBack_111 : decode cX12_comesBack 111 = .ok (.dup, 1) := by decide +kernel
theorem dX12_comesBack_112 : decode cX12_comesBack 112 = .ok (.getfield 174, 3) := by decide +kernel
theorem dX12_comesBack_115 : decode cX12_comesBack 115 = .ok (.iconst 1, 1) := by decide +kernel
theorem dX12_comesBack_116 : decode cX12_comesBack 116 = .ok (.iadd, 1) := by decide +kernel
theorem dX12_comesBack_117 : decode cX12_comesBack 117 = .ok (.putfield 174, 3) := by decide +kernel
theorem dX12_comesBack_120 : decode cX12_comesBack 120 = .ok (.iload 4, 2) := by decide +kernel
theorem dX12_comesBack_122 : decode cX12_comesBack 122 = .ok (.ireturn, 1) := by decide +kernel
theorem dX12_noAct_0 : decode cX12_noAct 0 = .ok (.iload_n 1, 1) := by decide +kernel
theorem dX12_noAct_1 : decode cX12_noAct 1 = .ok (.i2l, 1) := by decide +kernel
theorem dX12_noAct_2 : decode cX12_noAct 2 = .ok (.lconst 0, 1) := by decide +kernel
theorem dX12_noAct_3 : decode cX12_noAct 3 = .ok (.aload_n 0, 1) := by decide +kernel
theorem dX12_noAct_4 : decode cX12_noAct 4 = .ok (.getfield 177, 3) := by decide +kernel
theorem dX12_noAct_7 : decode cX12_noAct 7 = .ok (.iconst 1, 1) := by decide +kernel
theorem dX12_noAct_8 : decode cX12_noAct 8 = .ok (.isub, 1) := by decide +kernel
theorem dX12_noAct_9 : decode cX12_noAct 9 = .ok (.i2l, 1) := by decide +kernel
theorem dX12_noAct_10 : decode cX12_noAct 10 = .ok (.invokestatic 147, 3) := by decide +kernel
theorem dX12_noAct_13 : decode cX12_noAct 13 = .ok (.ifCond .ne 7, 3) := by decide +kernel
theorem dX12_noAct_16 : decode cX12_noAct 16 = .ok (.iconst 1, 1) := by decide +kernel
theorem dX12_noAct_17 : decode cX12_noAct 17 = .ok (.goto 4, 3) := by decide +kernel
theorem dX12_noAct_20 : decode cX12_noAct 20 = .ok (.iconst 0, 1) := by decide +kernel
theorem dX12_noAct_21 : decode cX12_noAct 21 = .ok (.ireturn, 1) := by decide +kernel
theorem dX12_act_0 : decode cX12_act 0 = .ok (.aload_n 0, 1) := by decide +kernel
theorem dX12_act_1 : decode cX12_act 1 = .ok (.getfield 177, 3) := by decide +kernel
theorem dX12_act_4 : decode cX12_act 4 = .ok (.bipush 12, 2) := by decide +kernel
theorem dX12_act_6 : decode cX12_act 6 = .ok (.if_icmp .ne 6, 3) := by decide +kernel
theorem dX12_act_9 : decode cX12_act 9 = .ok (.bipush (-104), 2) := by decide +kernel
theorem dX12_act_11 : decode cX12_act 11 = .ok (.ireturn, 1) := by decide +kernel
theorem dX12_act_12 : decode cX12_act 12 = .ok (.aload_n 0, 1) := by decide +kernel
theorem dX12_act_13 : decode cX12_act 13 = .ok (.getfield 47, 3) := by decide +kernel
theorem dX12_act_16 : decode cX12_act 16 = .ok (.aload_n 0, 1) := by decide +kernel
theorem dX12_act_17 : decode cX12_act 17 = .ok (.getfield 177, 3) := by decide +kernel
theorem dX12_act_20 : decode cX12_act 20 = .ok (.iconst 0, 1) := by decide +kernel
theorem dX12_act_21 : decode cX12_act 21 = .ok (.iastore, 1) := by decide +kernel
theorem dX12_act_22 : decode cX12_act 22 = .ok (.aload_n 0, 1) := by decide +kernel
theorem dX12_act_23 : decode cX12_act 23 = .ok (.dup, 1) := by decide +kernel
theorem dX12_act_24 : decode cX12_act 24 = .ok (.getfield 177, 3) := by decide +kernel
theorem dX12_act_27 : decode cX12_act 27 = .ok (.iconst 1, 1) := by decide +kernel
theorem dX12_act_28 : decode cX12_act 28 = .ok (.iadd, 1) := by decide +kernel
theorem dX12_act_29 : decode cX12_act 29 = .ok (.putfield 177, 3) := by decide +kernel
theorem dX12_act_32 : decode cX12_act 32 = .ok (.aload_n 0, 1) := by decide +kernel
theorem dX12_act_33 : decode cX12_act 33 = .ok (.getfield 177, 3) := by decide +kernel
theorem dX12_act_36 : decode cX12_act 36 = .ok (.iconst 1, 1) := by decide +kernel
theorem dX12_act_37 : decode cX12_act 37 = .ok (.isub, 1) := by decide +kernel
theorem dX12_act_38 : decode cX12_act 38 = .ok (.ireturn, 1) := by decide +kernel
theorem dX12_line_0 : decode cX12_line 0 = .ok (.aload_n 0, 1) := by decide +kernel
theorem dX12_line_1 : decode cX12_line 1 = .ok (.iload_n 1, 1) := by decide +kernel
theorem dX12_line_2 : decode cX12_line 2 = .ok (.invokevirtual 180, 3) := by decide +kernel
theorem dX12_line_5 : decode cX12_line 5 = .ok (.ifCond .eq 6, 3) := by decide +kernel
theorem dX12_line_8 : decode cX12_line 8 = .ok (.bipush (-101), 2) := by decide +kernel
theorem dX12_line_10 : decode cX12_line 10 = .ok (.ireturn, 1) := by decide +kernel
theorem dX12_line_11 : decode cX12_line 11 = .ok (.aload_n 0, 1) := by decide +kernel
theorem dX12_line_12 : decode cX12_line 12 = .ok (.getfield 47, 3) := by decide +kernel
theorem dX12_line_15 : decode cX12_line 15 = .ok (.iload_n 1, 1) := by decide +kernel
theorem dX12_line_16 : decode cX12_line 16 = .ok (.iaload, 1) := by decide +kernel
theorem dX12_line_17 : decode cX12_line 17 = .ok (.bipush 40, 2) := by decide +kernel
theorem dX12_line_19 : decode cX12_line 19 = .ok (.if_icmp .ne 6, 3) := by decide +kernel
theorem dX12_line_22 : decode cX12_line 22 = .ok (.bipush (-104), 2) := by decide +kernel
theorem dX12_line_24 : decode cX12_line 24 = .ok (.ireturn, 1) := by decide +kernel
theorem dX12_line_25 : decode cX12_line 25 = .ok (.bipush 40, 2) := by decide +kernel
theorem dX12_line_27 : decode cX12_line 27 = .ok (.iload_n 1, 1) := by decide +kernel
theorem dX12_line_28 : decode cX12_line 28 = .ok (.imul, 1) := by decide +kernel
theorem dX12_line_29 : decode cX12_line 29 = .ok (.aload_n 0, 1) := by decide +kernel
theorem dX12_line_30 : decode cX12_line 30 = .ok (.getfield 47, 3) := by decide +kernel
theorem dX12_line_33 : decode cX12_line 33 = .ok (.iload_n 1, 1) := by decide +kernel
theorem dX12_line_34 : decode cX12_line 34 = .ok (.iaload, 1) := by decide +kernel
theorem dX12_line_35 : decode cX12_line 35 = .ok (.iadd, 1) := by decide +kernel
theorem dX12_line_36 : decode cX12_line 36 = .ok (.istore 5, 2) := by decide +kernel
theorem dX12_line_38 : decode cX12_line 38 = .ok (.aload_n 0, 1) := by decide +kernel
theorem dX12_line_39 : decode cX12_line 39 = .ok (.getfield 50, 3) := by decide +kernel
theorem dX12_line_42 : decode cX12_line 42 = .ok (.iload 5, 2) := by decide +kernel
theorem dX12_line_44 : decode cX12_line 44 = .ok (.iload_n 2, 1) := by decide +kernel
theorem dX12_line_45 : decode cX12_line 45 = .ok (.iastore, 1) := by decide +kernel
theorem dX12_line_46 : decode cX12_line 46 = .ok (.aload_n 0, 1) := by decide +kernel
theorem dX12_line_47 : decode cX12_line 47 = .ok (.getfield 53, 3) := by decide +kernel
theorem dX12_line_50 : decode cX12_line 50 = .ok (.iload 5, 2) := by decide +kernel
theorem dX12_line_52 : decode cX12_line 52 = .ok (.iload_n 3, 1) := by decide +kernel
theorem dX12_line_53 : decode cX12_line 53 = .ok (.iastore, 1) := by decide +kernel
theorem dX12_line_54 : decode cX12_line 54 = .ok (.aload_n 0, 1) := by decide +kernel
theorem dX12_line_55 : decode cX12_line 55 = .ok (.getfield 56, 3) := by decide +kernel
theorem dX12_line_58 : decode cX12_line 58 = .ok (.iload 5, 2) := by decide +kernel
theorem dX12_line_60 : decode cX12_line 60 = .ok (.iload 4, 2) := by decide +kernel
theorem dX12_line_62 : decode cX12_line 62 = .ok (.iastore, 1) := by decide +kernel
theorem dX12_line_63 : decode cX12_line 63 = .ok (.aload_n 0, 1) := by decide +kernel
theorem dX12_line_64 : decode cX12_line 64 = .ok (.getfield 47, 3) := by decide +kernel
theorem dX12_line_67 : decode cX12_line 67 = .ok (.iload_n 1, 1) := by decide +kernel
theorem dX12_line_68 : decode cX12_line 68 = .ok (.dup2, 1) := by decide +kernel
theorem dX12_line_69 : decode cX12_line 69 = .ok (.iaload, 1) := by decide +kernel
theorem dX12_line_70 : decode cX12_line 70 = .ok (.iconst 1, 1) := by decide +kernel
theorem dX12_line_71 : decode cX12_line 71 = .ok (.iadd, 1) := by decide +kernel
theorem dX12_line_72 : decode cX12_line 72 = .ok (.iastore, 1) := by decide +kernel
theorem dX12_line_73 : decode cX12_line 73 = .ok (.aload_n 0, 1) := by decide +kernel
theorem dX12_line_74 : decode cX12_line 74 = .ok (.getfield 47, 3) := by decide +kernel
theorem dX12_line_77 : decode cX12_line 77 = .ok (.iload_n 1, 1) := by decide +kernel
theorem dX12_line_78 : decode cX12_line 78 = .ok (.iaload, 1) := by decide +kernel
theorem dX12_line_79 : decode cX12_line 79 = .ok (.ireturn, 1) := by decide +kernel
theorem dX12_wipe_0 : decode cX12_wipe 0 = .ok (.aload_n 0, 1) := by decide +kernel
theorem dX12_wipe_1 : decode cX12_wipe 1 = .ok (.iload_n 1, 1) := by decide +kernel
theorem dX12_wipe_2 : decode cX12_wipe 2 = .ok (.invokevirtual 180, 3) := by decide +kernel
theorem dX12_wipe_5 : decode cX12_wipe 5 = .ok (.ifCond .eq 6, 3) := by decide +kernel
theorem dX12_wipe_8 : decode cX12_wipe 8 = .ok (.bipush (-101), 2) := by decide +kernel
theorem dX12_wipe_10 : decode cX12_wipe 10 = .ok (.ireturn, 1) := by decide +kernel
theorem dX12_wipe_11 : decode cX12_wipe 11 = .ok (.aload_n 0, 1) := by decide +kernel
theorem dX12_wipe_12 : decode cX12_wipe 12 = .ok (.getfield 47, 3) := by decide +kernel
theorem dX12_wipe_15 : decode cX12_wipe 15 = .ok (.iload_n 1, 1) := by decide +kernel
theorem dX12_wipe_16 : decode cX12_wipe 16 = .ok (.iaload, 1) := by decide +kernel
theorem dX12_wipe_17 : decode cX12_wipe 17 = .ok (.istore_n 2, 1) := by decide +kernel
theorem dX12_wipe_18 : decode cX12_wipe 18 = .ok (.aload_n 0, 1) := by decide +kernel
theorem dX12_wipe_19 : decode cX12_wipe 19 = .ok (.getfield 47, 3) := by decide +kernel
theorem dX12_wipe_22 : decode cX12_wipe 22 = .ok (.iload_n 1, 1) := by decide +kernel
theorem dX12_wipe_23 : decode cX12_wipe 23 = .ok (.iconst 0, 1) := by decide +kernel
theorem dX12_wipe_24 : decode cX12_wipe 24 = .ok (.iastore, 1) := by decide +kernel
theorem dX12_wipe_25 : decode cX12_wipe 25 = .ok (.iload_n 2, 1) := by decide +kernel
theorem dX12_wipe_26 : decode cX12_wipe 26 = .ok (.ireturn, 1) := by decide +kernel
theorem dX12_isSlot_0 : decode cX12_isSlot 0 = .ok (.iload_n 0, 1) := by decide +kernel
theorem dX12_isSlot_1 : decode cX12_isSlot 1 = .ok (.i2l, 1) := by decide +kernel
theorem dX12_isSlot_2 : decode cX12_isSlot 2 = .ok (.lconst 0, 1) := by decide +kernel
theorem dX12_isSlot_3 : decode cX12_isSlot 3 = .ok (.ldc2_w 183, 3) := by decide +kernel
theorem dX12_isSlot_6 : decode cX12_isSlot 6 = .ok (.invokestatic 147, 3) := by decide +kernel
theorem dX12_isSlot_9 : decode cX12_isSlot 9 = .ok (.ireturn, 1) := by decide +kernel
theorem dX12_isWrong_0 : decode cX12_isWrong 0 = .ok (.iload_n 0, 1) := by decide +kernel
theorem dX12_isWrong_1 : decode cX12_isWrong 1 = .ok (.tableswitch 244 0 14 #[75, 100, 75, 125, 125, 138, 158, 183, 208, 244, 244, 226, 244, 244, 208], 75) := by decide +kernel
theorem dX12_isWrong_76 : decode cX12_isWrong 76 = .ok (.iload_n 1, 1) := by decide +kernel
theorem dX12_isWrong_77 : decode cX12_isWrong 77 = .ok (.invokestatic 185, 3) := by decide +kernel
theorem dX12_isWrong_80 : decode cX12_isWrong 80 = .ok (.ifCond .eq 15, 3) := by decide +kernel
theorem dX12_isWrong_83 : decode cX12_isWrong 83 = .ok (.iload_n 2, 1) := by decide +kernel
theorem dX12_isWrong_84 : decode cX12_isWrong 84 = .ok (.i2l, 1) := by decide +kernel
theorem dX12_isWrong_85 : decode cX12_isWrong 85 = .ok (.lconst 0, 1) := by decide +kernel
theorem dX12_isWrong_86 : decode cX12_isWrong 86 = .ok (.ldc2_w 188, 3) := by decide +kernel
theorem dX12_isWrong_89 : decode cX12_isWrong 89 = .ok (.invokestatic 147, 3) := by decide +kernel
theorem dX12_isWrong_92 : decode cX12_isWrong 92 = .ok (.ifCond .ne 7, 3) := by decide +kernel
theorem dX12_isWrong_95 : decode cX12_isWrong 95 = .ok (.iconst 1, 1) := by decide +kernel
theorem dX12_isWrong_96 : decode cX12_isWrong 96 = .ok (.goto 4, 3) := by decide +kernel
theorem dX12_isWrong_99 : decode cX12_isWrong 99 = .ok (.iconst 0, 1) := by decide +kernel
theorem dX12_isWrong_100 : decode cX12_isWrong 100 = .ok (.ireturn, 1) := by decide +kernel
theorem dX12_isWrong_101 : decode cX12_isWrong 101 = .ok (.iload_n 1, 1) := by decide +kernel
theorem dX12_isWrong_102 : decode cX12_isWrong 102 = .ok (.invokestatic 185, 3) := by decide +kernel
theorem dX12_isWrong_105 : decode cX12_isWrong 105 = .ok (.ifCond .eq 15, 3) := by decide +kernel
theorem dX12_isWrong_108 : decode cX12_isWrong 108 = .ok (.iload_n 2, 1) := by decide +kernel
theorem dX12_isWrong_109 : decode cX12_isWrong 109 = .ok (.i2l, 1) := by decide +kernel
theorem dX12_isWrong_110 : decode cX12_isWrong 110 = .ok (.lconst 0, 1) := by decide +kernel
theorem dX12_isWrong_111 : decode cX12_isWrong 111 = .ok (.ldc2_w 145, 3) := by decide +kernel
theorem dX12_isWrong_114 : decode cX12_isWrong 114 = .ok (.invokestatic 147, 3) := by decide +kernel
theorem dX12_isWrong_117 : decode cX12_isWrong 117 = .ok (.ifCond .ne 7, 3) := by decide +kernel
theorem dX12_isWrong_120 : decode cX12_isWrong 120 = .ok (.iconst 1, 1) := by decide +kernel
theorem dX12_isWrong_121 : decode cX12_isWrong 121 = .ok (.goto 4, 3) := by decide +kernel
theorem dX12_isWrong_124 : decode cX12_isWrong 124 = .ok (.iconst 0, 1) := by decide +kernel
theorem dX12_isWrong_125 : decode cX12_isWrong 125 = .ok (.ireturn, 1) := by decide +kernel
theorem dX12_isWrong_126 : decode cX12_isWrong 126 = .ok (.iload_n 1, 1) := by decide +kernel
theorem dX12_isWrong_127 : decode cX12_isWrong 127 = .ok (.invokestatic 185, 3) := by decide +kernel
theorem dX12_isWrong_130 : decode cX12_isWrong 130 = .ok (.ifCond .ne 7, 3) := by decide +kernel
theorem dX12_isWrong_133 : decode cX12_isWrong 133 = .ok (.iconst 1, 1) := by decide +kernel
theorem dX12_isWrong_134 : decode cX12_isWrong 134 = .ok (.goto 4, 3) := by decide +kernel
theorem dX12_isWrong_137 : decode cX12_isWrong 137 = .ok (.iconst 0, 1) := by decide +kernel
theorem dX12_isWrong_138 : decode cX12_isWrong 138 = .ok (.ireturn, 1) := by decide +kernel
theorem dX12_isWrong_139 : decode cX12_isWrong 139 = .ok (.iload_n 1, 1) := by decide +kernel
theorem dX12_isWrong_140 : decode cX12_isWrong 140 = .ok (.invokestatic 185, 3) := by decide +kernel
theorem dX12_isWrong_143 : decode cX12_isWrong 143 = .ok (.ifCond .eq 10, 3) := by decide +kernel
theorem dX12_isWrong_146 : decode cX12_isWrong 146 = .ok (.iload_n 2, 1) := by decide +kernel
theorem dX12_isWrong_147 : decode cX12_isWrong 147 = .ok (.invokestatic 185, 3) := by decide +kernel
theorem dX12_isWrong_150 : decode cX12_isWrong 150 = .ok (.ifCond .ne 7, 3) := by decide +kernel
theorem dX12_isWrong_153 : decode cX12_isWrong 153 = .ok (.iconst 1, 1) := by decide +kernel
theorem dX12_isWrong_154 : decode cX12_isWrong 154 = .ok (.goto 4, 3) := by decide +kernel
theorem dX12_isWrong_157 : decode cX12_isWrong 157 = .ok (.iconst 0, 1) := by decide +kernel
theorem dX12_isWrong_158 : decode cX12_isWrong 158 = .ok (.ireturn, 1) := by decide +kernel
theorem dX12_isWrong_159 : decode cX12_isWrong 159 = .ok (.iload_n 1, 1) := by decide +kernel
theorem dX12_isWrong_160 : decode cX12_isWrong 160 = .ok (.invokestatic 185, 3) := by decide +kernel
theorem dX12_isWrong_163 : decode cX12_isWrong 163 = .ok (.ifCond .eq 15, 3) := by decide +kernel
theorem dX12_isWrong_166 : decode cX12_isWrong 166 = .ok (.iload_n 2, 1) := by decide +kernel
theorem dX12_isWrong_167 : decode cX12_isWrong 167 = .ok (.i2l, 1) := by decide +kernel
theorem dX12_isWrong_168 : decode cX12_isWrong 168 = .ok (.lconst 0, 1) := by decide +kernel
theorem dX12_isWrong_169 : decode cX12_isWrong 169 = .ok (.ldc2_w 190, 3) := by decide +kernel
theorem dX12_isWrong_172 : decode cX12_isWrong 172 = .ok (.invokestatic 147, 3) := by decide +kernel
theorem dX12_isWrong_175 : decode cX12_isWrong 175 = .ok (.ifCond .ne 7, 3) := by decide +kernel
theorem dX12_isWrong_178 : decode cX12_isWrong 178 = .ok (.iconst 1, 1) := by decide +kernel
theorem dX12_isWrong_179 : decode cX12_isWrong 179 = .ok (.goto 4, 3) := by decide +kernel
theorem dX12_isWrong_182 : decode cX12_isWrong 182 = .ok (.iconst 0, 1) := by decide +kernel
theorem dX12_isWrong_183 : decode cX12_isWrong 183 = .ok (.ireturn, 1) := by decide +kernel
theorem dX12_isWrong_184 : decode cX12_isWrong 184 = .ok (.iload_n 1, 1) := by decide +kernel
theorem dX12_isWrong_185 : decode cX12_isWrong 185 = .ok (.i2l, 1) := by decide +kernel
theorem dX12_isWrong_186 : decode cX12_isWrong 186 = .ok (.lconst 0, 1) := by decide +kernel
theorem dX12_isWrong_187 : decode cX12_isWrong 187 = .ok (.ldc2_w 192, 3) := by decide +kernel
theorem dX12_isWrong_190 : decode cX12_isWrong 190 = .ok (.invokestatic 147, 3) := by decide +kernel
theorem dX12_isWrong_193 : decode cX12_isWrong 193 = .ok (.ifCond .eq 10, 3) := by decide +kernel
theorem dX12_isWrong_196 : decode cX12_isWrong 196 = .ok (.iload_n 2, 1) := by decide +kernel
theorem dX12_isWrong_197 : decode cX12_isWrong 197 = .ok (.invokestatic 185, 3) := by decide +kernel
theorem dX12_isWrong_200 : decode cX12_isWrong 200 = .ok (.ifCond .ne 7, 3) := by decide +kernel
theorem dX12_isWrong_203 : decode cX12_isWrong 203 = .ok (.iconst 1, 1) := by decide +kernel
theorem dX12_isWrong_204 : decode cX12_isWrong 204 = .ok (.goto 4, 3) := by decide +kernel
theorem dX12_isWrong_207 : decode cX12_isWrong 207 = .ok (.iconst 0, 1) := by decide +kernel
theorem dX12_isWrong_208 : decode cX12_isWrong 208 = .ok (.ireturn, 1) := by decide +kernel
theorem dX12_isWrong_209 : decode cX12_isWrong 209 = .ok (.iload_n 1, 1) := by decide +kernel
theorem dX12_isWrong_210 : decode cX12_isWrong 210 = .ok (.i2l, 1) := by decide +kernel
theorem dX12_isWrong_211 : decode cX12_isWrong 211 = .ok (.lconst 0, 1) := by decide +kernel
theorem dX12_isWrong_212 : decode cX12_isWrong 212 = .ok (.ldc2_w 192, 3) := by decide +kernel
theorem dX12_isWrong_215 : decode cX12_isWrong 215 = .ok (.invokestatic 147, 3) := by decide +kernel
theorem dX12_isWrong_218 : decode cX12_isWrong 218 = .ok (.ifCond .ne 7, 3) := by decide +kernel
theorem dX12_isWrong_221 : decode cX12_isWrong 221 = .ok (.iconst 1, 1) := by decide +kernel
theorem dX12_isWrong_222 : decode cX12_isWrong 222 = .ok (.goto 4, 3) := by decide +kernel
theorem dX12_isWrong_225 : decode cX12_isWrong 225 = .ok (.iconst 0, 1) := by decide +kernel
theorem dX12_isWrong_226 : decode cX12_isWrong 226 = .ok (.ireturn, 1) := by decide +kernel
theorem dX12_isWrong_227 : decode cX12_isWrong 227 = .ok (.iload_n 1, 1) := by decide +kernel
theorem dX12_isWrong_228 : decode cX12_isWrong 228 = .ok (.i2l, 1) := by decide +kernel
theorem dX12_isWrong_229 : decode cX12_isWrong 229 = .ok (.lconst 0, 1) := by decide +kernel
theorem dX12_isWrong_230 : decode cX12_isWrong 230 = .ok (.ldc2_w 165, 3) := by decide +kernel
theorem dX12_isWrong_233 : decode cX12_isWrong 233 = .ok (.invokestatic 147, 3) := by decide +kernel
theorem dX12_isWrong_236 : decode cX12_isWrong 236 = .ok (.ifCond .ne 7, 3) := by decide +kernel
theorem dX12_isWrong_239 : decode cX12_isWrong 239 = .ok (.iconst 1, 1) := by decide +kernel
theorem dX12_isWrong_240 : decode cX12_isWrong 240 = .ok (.goto 4, 3) := by decide +kernel
theorem dX12_isWrong_243 : decode cX12_isWrong 243 = .ok (.iconst 0, 1) := by decide +kernel
theorem dX12_isWrong_244 : decode cX12_isWrong 244 = .ok (.ireturn, 1) := by decide +kernel
theorem dX12_isWrong_245 : decode cX12_isWrong 245 = .ok (.iload_n 0, 1) := by decide +kernel
theorem dX12_isWrong_246 : decode cX12_isWrong 246 = .ok (.i2l, 1) := by decide +kernel
theorem dX12_isWrong_247 : decode cX12_isWrong 247 = .ok (.lconst 0, 1) := by decide +kernel
theorem dX12_isWrong_248 : decode cX12_isWrong 248 = .ok (.ldc2_w 194, 3) := by decide +kernel
theorem dX12_isWrong_251 : decode cX12_isWrong 251 = .ok (.invokestatic 147, 3) := by decide +kernel
theorem dX12_isWrong_254 : decode cX12_isWrong 254 = .ok (.ifCond .ne 7, 3) := by decide +kernel
theorem dX12_isWrong_257 : decode cX12_isWrong 257 = .ok (.iconst 1, 1) := by decide +kernel
theorem dX12_isWrong_258 : decode cX12_isWrong 258 = .ok (.goto 4, 3) := by decide +kernel
theorem dX12_isWrong_261 : decode cX12_isWrong 261 = .ok (.iconst 0, 1) := by decide +kernel
theorem dX12_isWrong_262 : decode cX12_isWrong 262 = .ok (.ireturn, 1) := by decide +kernel
theorem dX12_begins_0 : decode cX12_begins 0 = .ok (.iload_n 0, 1) := by decide +kernel
theorem dX12_begins_1 : decode cX12_begins 1 = .ok (.bipush 11, 2) := by decide +kernel
theorem dX12_begins_3 : decode cX12_begins 3 = .ok (.if_icmp .eq 15, 3) := by decide +kernel
theorem dX12_begins_6 : decode cX12_begins 6 = .ok (.iload_n 0, 1) := by decide +kernel
theorem dX12_begins_7 : decode cX12_begins 7 = .ok (.bipush 12, 2) := by decide +kernel
theorem dX12_begins_9 : decode cX12_begins 9 = .ok (.if_icmp .eq 9, 3) := by decide +kernel
theorem dX12_begins_12 : decode cX12_begins 12 = .ok (.iload_n 0, 1) := by decide +kernel
theorem dX12_begins_13 : decode cX12_begins 13 = .ok (.bipush 13, 2) := by decide +kernel
theorem dX12_begins_15 : decode cX12_begins 15 = .ok (.if_icmp .ne 7, 3) := by decide +kernel
theorem dX12_begins_18 : decode cX12_begins 18 = .ok (.iconst 1, 1) := by decide +kernel
theorem dX12_begins_19 : decode cX12_begins 19 = .ok (.goto 4, 3) := by decide +kernel
theorem dX12_begins_22 : decode cX12_begins 22 = .ok (.iconst 0, 1) := by decide +kernel
theorem dX12_begins_23 : decode cX12_begins 23 = .ok (.ireturn, 1) := by decide +kernel
theorem dX12_judge_0 : decode cX12_judge 0 = .ok (.aload_n 0, 1) := by decide +kernel
theorem dX12_judge_1 : decode cX12_judge 1 = .ok (.iconst 0, 1) := by decide +kernel
theorem dX12_judge_2 : decode cX12_judge 2 = .ok (.putfield 196, 3) := by decide +kernel
theorem dX12_judge_5 : decode cX12_judge 5 = .ok (.aload_n 0, 1) := by decide +kernel
theorem dX12_judge_6 : decode cX12_judge 6 = .ok (.iconst (-1), 1) := by decide +kernel
theorem dX12_judge_7 : decode cX12_judge 7 = .ok (.putfield 199, 3) := by decide +kernel
theorem dX12_judge_10 : decode cX12_judge 10 = .ok (.iconst 0, 1) := by decide +kernel
theorem dX12_judge_11 : decode cX12_judge 11 = .ok (.istore_n 2, 1) := by decide +kernel
theorem dX12_judge_12 : decode cX12_judge 12 = .ok (.iconst 0, 1) := by decide +kernel
theorem dX12_judge_13 : decode cX12_judge 13 = .ok (.istore_n 3, 1) := by decide +kernel
theorem dX12_judge_14 : decode cX12_judge 14 = .ok (.iload_n 3, 1) := by decide +kernel
theorem dX12_judge_15 : decode cX12_judge 15 = .ok (.aload_n 0, 1) := by decide +kernel
theorem dX12_judge_16 : decode cX12_judge 16 = .ok (.getfield 47, 3) := by decide +kernel
theorem dX12_judge_19 : decode cX12_judge 19 = .ok (.iload_n 1, 1) := by decide +kernel
theorem dX12_judge_20 : decode cX12_judge 20 = .ok (.iaload, 1) := by decide +kernel
theorem dX12_judge_21 : decode cX12_judge 21 = .ok (.if_icmp .ge 317, 3) := by decide +kernel
theorem dX12_judge_24 : decode cX12_judge 24 = .ok (.aload_n 0, 1) := by decide +kernel
theorem dX12_judge_25 : decode cX12_judge 25 = .ok (.getfield 196, 3) := by decide +kernel
theorem dX12_judge_28 : decode cX12_judge 28 = .ok (.ifCond .ne 310, 3) := by decide +kernel
theorem dX12_judge_31 : decode cX12_judge 31 = .ok (.aload_n 0, 1) := by decide +kernel
theorem dX12_judge_32 : decode cX12_judge 32 = .ok (.getfield 50, 3) := by decide +kernel
theorem dX12_judge_35 : decode cX12_judge 35 = .ok (.bipush 40, 2) := by decide +kernel
theorem dX12_judge_37 : decode cX12_judge 37 = .ok (.iload_n 1, 1) := by decide +kernel
theorem dX12_judge_38 : decode cX12_judge 38 = .ok (.imul, 1) := by decide +kernel
theorem dX12_judge_39 : decode cX12_judge 39 = .ok (.iload_n 3, 1) := by decide +kernel
theorem dX12_judge_40 : decode cX12_judge 40 = .ok (.iadd, 1) := by decide +kernel
theorem dX12_judge_41 : decode cX12_judge 41 = .ok (.iaload, 1) := by decide +kernel
theorem dX12_judge_42 : decode cX12_judge 42 = .ok (.istore 4, 2) := by decide +kernel
theorem dX12_judge_44 : decode cX12_judge 44 = .ok (.iload 4, 2) := by decide +kernel
theorem dX12_judge_46 : decode cX12_judge 46 = .ok (.aload_n 0, 1) := by decide +kernel
theorem dX12_judge_47 : decode cX12_judge 47 = .ok (.getfield 53, 3) := by decide +kernel
theorem dX12_judge_50 : decode cX12_judge 50 = .ok (.bipush 40, 2) := by decide +kernel
theorem dX12_judge_52 : decode cX12_judge 52 = .ok (.iload_n 1, 1) := by decide +kernel
theorem dX12_judge_53 : decode cX12_judge 53 = .ok (.imul, 1) := by decide +kernel
theorem dX12_judge_54 : decode cX12_judge 54 = .ok (.iload_n 3, 1) := by decide +kernel
theorem dX12_judge_55 : decode cX12_judge 55 = .ok (.iadd, 1) := by decide +kernel
theorem dX12_judge_56 : decode cX12_judge 56 = .ok (.iaload, 1) := by decide +kernel
theorem dX12_judge_57 : decode cX12_judge 57 = .ok (.aload_n 0, 1) := by decide +kernel
theorem dX12_judge_58 : decode cX12_judge 58 = .ok (.getfield 56, 3) := by decide +kernel
theorem dX12_judge_61 : decode cX12_judge 61 = .ok (.bipush 40, 2) := by decide +kernel
theorem dX12_judge_63 : decode cX12_judge 63 = .ok (.iload_n 1, 1) := by decide +kernel
theorem dX12_judge_64 : decode cX12_judge 64 = .ok (.imul, 1) := by decide +kernel
theorem dX12_judge_65 : decode cX12_judge 65 = .ok (.iload_n 3, 1) := by decide +kernel
theorem dX12_judge_66 : decode cX12_judge 66 = .ok (.iadd, 1) := by decide +kernel
theorem dX12_judge_67 : decode cX12_judge 67 = .ok (.iaload, 1) := by decide +kernel
theorem dX12_judge_68 : decode cX12_judge 68 = .ok (.invokestatic 202, 3) := by decide +kernel
theorem dX12_judge_71 : decode cX12_judge 71 = .ok (.ifCond .eq 7, 3) := by decide +kernel
theorem dX12_judge_74 : decode cX12_judge 74 = .ok (.iconst 1, 1) := by decide +kernel
theorem dX12_judge_75 : decode cX12_judge 75 = .ok (.goto 4, 3) := by decide +kernel
theorem dX12_judge_78 : decode cX12_judge 78 = .ok (.iconst 0, 1) := by decide +kernel
theorem dX12_judge_79 : decode cX12_judge 79 = .ok (.istore 5, 2) := by decide +kernel
theorem dX12_judge_81 : decode cX12_judge 81 = .ok (.iload 5, 2) := by decide +kernel
theorem dX12_judge_83 : decode cX12_judge 83 = .ok (.ifCond .ne 37, 3) := by decide +kernel
theorem dX12_judge_86 : decode cX12_judge 86 = .ok (.iload 4, 2) := by decide +kernel
theorem dX12_judge_88 : decode cX12_judge 88 = .ok (.bipush 16, 2) := by decide +kernel
theorem dX12_judge_90 : decode cX12_judge 90 = .ok (.if_icmp .ne 30, 3) := by decide +kernel
theorem dX12_judge_93 : decode cX12_judge 93 = .ok (.iload_n 2, 1) := by decide +kernel
theorem dX12_judge_94 : decode cX12_judge 94 = .ok (.ifCond .ne 7, 3) := by decide +kernel
theorem dX12_judge_97 : decode cX12_judge 97 = .ok (.iconst 2, 1) := by decide +kernel
theorem dX12_judge_98 : decode cX12_judge 98 = .ok (.goto 4, 3) := by decide +kernel
theorem dX12_judge_101 : decode cX12_judge 101 = .ok (.iconst 0, 1) := by decide +kernel
theorem dX12_judge_102 : decode cX12_judge 102 = .ok (.istore 5, 2) := by decide +kernel
theorem dX12_judge_104 : decode cX12_judge 104 = .ok (.iload_n 2, 1) := by decide +kernel
theorem dX12_judge_105 : decode cX12_judge 105 = .ok (.iload 5, 2) := by decide +kernel
theorem dX12_judge_107 : decode cX12_judge 107 = .ok (.ifCond .ne 7, 3) := by decide +kernel
theorem dX12_judge_110 : decode cX12_judge 110 = .ok (.iconst 1, 1) := by decide +kernel
theorem dX12_judge_111 : decode cX12_judge 111 = .ok (.goto 4, 3) := by decide +kernel
theorem dX12_judge_114 : decode cX12_judge 114 = .ok (.iconst 0, 1) := by decide +kernel
theorem dX12_judge_115 : decode cX12_judge 115 = .ok (.isub, 1) := by decide +kernel
theorem dX12_judge_116 : decode cX12_judge 116 = .ok (.istore_n 2, 1) := by decide +kernel
theorem dX12_judge_117 : decode cX12_judge 117 = .ok (.goto 199, 3) := by decide +kernel
theorem dX12_judge_120 : decode cX12_judge 120 = .ok (.iload 5, 2) := by decide +kernel
theorem dX12_judge_122 : decode cX12_judge 122 = .ok (.ifCond .ne 76, 3) := by decide +kernel
theorem dX12_judge_125 : decode cX12_judge 125 = .ok (.iload 4, 2) := by decide +kernel
theorem dX12_judge_127 : decode cX12_judge 127 = .ok (.bipush 14, 2) := by decide +kernel
theorem dX12_judge_129 : decode cX12_judge 129 = .ok (.if_icmp .eq 10, 3) := by decide +kernel
theorem dX12_judge_132 : decode cX12_judge 132 = .ok (.iload 4, 2) := by decide +kernel
theorem dX12_judge_134 : decode cX12_judge 134 = .ok (.bipush 15, 2) := by decide +kernel
theorem dX12_judge_136 : decode cX12_judge 136 = .ok (.if_icmp .ne 62, 3) := by decide +kernel
theorem dX12_judge_139 : decode cX12_judge 139 = .ok (.iload_n 2, 1) := by decide +kernel
theorem dX12_judge_140 : decode cX12_judge 140 = .ok (.ifCond .eq 27, 3) := by decide +kernel
theorem dX12_judge_143 : decode cX12_judge 143 = .ok (.aload_n 0, 1) := by decide +kernel
theorem dX12_judge_144 : decode cX12_judge 144 = .ok (.getfield 59, 3) := by decide +kernel
theorem dX12_judge_147 : decode cX12_judge 147 = .ok (.iload_n 2, 1) := by decide +kernel
theorem dX12_judge_148 : decode cX12_judge 148 = .ok (.iconst 1, 1) := by decide +kernel
theorem dX12_judge_149 : decode cX12_judge 149 = .ok (.isub, 1) := by decide +kernel
theorem dX12_judge_150 : decode cX12_judge 150 = .ok (.iaload, 1) := by decide +kernel
theorem dX12_judge_151 : decode cX12_judge 151 = .ok (.bipush 13, 2) := by decide +kernel
theorem dX12_judge_153 : decode cX12_judge 153 = .ok (.if_icmp .ne 14, 3) := by decide +kernel
theorem dX12_judge_156 : decode cX12_judge 156 = .ok (.aload_n 0, 1) := by decide +kernel
theorem dX12_judge_157 : decode cX12_judge 157 = .ok (.getfield 62, 3) := by decide +kernel
theorem dX12_judge_160 : decode cX12_judge 160 = .ok (.iload_n 2, 1) := by decide +kernel
theorem dX12_judge_161 : decode cX12_judge 161 = .ok (.iconst 1, 1) := by decide +kernel
theorem dX12_judge_162 : decode cX12_judge 162 = .ok (.isub, 1) := by decide +kernel
theorem dX12_judge_163 : decode cX12_judge 163 = .ok (.baload, 1) := by decide +kernel
theorem dX12_judge_164 : decode cX12_judge 164 = .ok (.ifCond .eq 7, 3) := by decide +kernel
theorem dX12_judge_167 : decode cX12_judge 167 = .ok (.iconst 2, 1) := by decide +kernel
theorem dX12_judge_168 : decode cX12_judge 168 = .ok (.goto 4, 3) := by decide +kernel
theorem dX12_judge_171 : decode cX12_judge 171 = .ok (.iconst 0, 1) := by decide +kernel
theorem dX12_judge_172 : decode cX12_judge 172 = .ok (.istore 5, 2) := by decide +kernel
theorem dX12_judge_174 : decode cX12_judge 174 = .ok (.iload 5, 2) := by decide +kernel
theorem dX12_judge_176 : decode cX12_judge 176 = .ok (.ifCond .ne 140, 3) := by decide +kernel
theorem dX12_judge_179 : decode cX12_judge 179 = .ok (.iload 4, 2) := by decide +kernel
theorem dX12_judge_181 : decode cX12_judge 181 = .ok (.bipush 15, 2) := by decide +kernel
theorem dX12_judge_183 : decode cX12_judge 183 = .ok (.if_icmp .ne 133, 3) := by decide +kernel
theorem dX12_judge_186 : decode cX12_judge 186 = .ok (.aload_n 0, 1) := by decide +kernel
theorem dX12_judge_187 : decode cX12_judge 187 = .ok (.getfield 62, 3) := by decide +kernel
theorem dX12_judge_190 : decode cX12_judge 190 = .ok (.iload_n 2, 1) := by decide +kernel
theorem dX12_judge_191 : decode cX12_judge 191 = .ok (.iconst 1, 1) := by decide +kernel
theorem dX12_judge_192 : decode cX12_judge 192 = .ok (.isub, 1) := by decide +kernel
theorem dX12_judge_193 : decode cX12_judge 193 = .ok (.iconst 1, 1) := by decide +kernel
theorem dX12_judge_194 : decode cX12_judge 194 = .ok (.bastore, 1) := by decide +kernel
theorem dX12_judge_195 : decode cX12_judge 195 = .ok (.goto 121, 3) := by decide +kernel
theorem dX12_judge_198 : decode cX12_judge 198 = .ok (.iload 5, 2) := by decide +kernel
theorem dX12_judge_200 : decode cX12_judge 200 = .ok (.ifCond .ne 50, 3) := by decide +kernel
theorem dX12_judge_203 : decode cX12_judge 203 = .ok (.iload 4, 2) := by decide +kernel
theorem dX12_judge_205 : decode cX12_judge 205 = .ok (.invokestatic 206, 3) := by decide +kernel
theorem dX12_judge_208 : decode cX12_judge 208 = .ok (.ifCond .eq 42, 3) := by decide +kernel
theorem dX12_judge_211 : decode cX12_judge 211 = .ok (.iload_n 2, 1) := by decide +kernel
theorem dX12_judge_212 : decode cX12_judge 212 = .ok (.bipush 7, 2) := by decide +kernel
theorem dX12_judge_214 : decode cX12_judge 214 = .ok (.if_icmp .le 7, 3) := by decide +kernel
theorem dX12_judge_217 : decode cX12_judge 217 = .ok (.iconst 3, 1) := by decide +kernel
theorem dX12_judge_218 : decode cX12_judge 218 = .ok (.goto 4, 3) := by decide +kernel
theorem dX12_judge_221 : decode cX12_judge 221 = .ok (.iconst 0, 1) := by decide +kernel
theorem dX12_judge_222 : decode cX12_judge 222 = .ok (.istore 5, 2) := by decide +kernel
theorem dX12_judge_224 : decode cX12_judge 224 = .ok (.iload 5, 2) := by decide +kernel
theorem dX12_judge_226 : decode cX12_judge 226 = .ok (.ifCond .ne 90, 3) := by decide +kernel
theorem dX12_judge_229 : decode cX12_judge 229 = .ok (.aload_n 0, 1) := by decide +kernel
theorem dX12_judge_230 : decode cX12_judge 230 = .ok (.getfield 59, 3) := by decide +kernel
theorem dX12_judge_233 : decode cX12_judge 233 = .ok (.iload_n 2, 1) := by decide +kernel
theorem dX12_judge_234 : decode cX12_judge 234 = .ok (.iload 4, 2) := by decide +kernel
theorem dX12_judge_236 : decode cX12_judge 236 = .ok (.iastore, 1) := by decide +kernel
theorem dX12_judge_237 : decode cX12_judge 237 = .ok (.aload_n 0, 1) := by decide +kernel
theorem dX12_judge_238 : decode cX12_judge 238 = .ok (.getfield 62, 3) := by decide +kernel
theorem dX12_judge_241 : decode cX12_judge 241 = .ok (.iload_n 2, 1) := by decide +kernel
theorem dX12_judge_242 : decode cX12_judge 242 = .ok (.iconst 0, 1) := by decide +kernel
theorem dX12_judge_243 : decode cX12_judge 243 = .ok (.bastore, 1) := by decide +kernel
theorem dX12_judge_244 : decode cX12_judge 244 = .ok (.iinc 2 1, 3) := by decide +kernel
theorem dX12_judge_247 : decode cX12_judge 247 = .ok (.goto 69, 3) := by decide +kernel
theorem dX12_judge_250 : decode cX12_judge 250 = .ok (.iload 5, 2) := by decide +kernel
theorem dX12_judge_252 : decode cX12_judge 252 = .ok (.ifCond .ne 64, 3) := by decide +kernel
theorem dX12_judge_255 : decode cX12_judge 255 = .ok (.iload 4, 2) := by decide +kernel
theorem dX12_judge_257 : decode cX12_judge 257 = .ok (.bipush 10, 2) := by decide +kernel
theorem dX12_judge_259 : decode cX12_judge 259 = .ok (.if_icmp .ne 57, 3) := by decide +kernel
theorem dX12_judge_262 : decode cX12_judge 262 = .ok (.iconst 0, 1) := by decide +kernel
theorem dX12_judge_263 : decode cX12_judge 263 = .ok (.istore 6, 2) := by decide +kernel
theorem dX12_judge_265 : decode cX12_judge 265 = .ok (.iconst 0, 1) := by decide +kernel
theorem dX12_judge_266 : decode cX12_judge 266 = .ok (.istore 7, 2) := by decide +kernel
theorem dX12_judge_268 : decode cX12_judge 268 = .ok (.iload 7, 2) := by decide +kernel
theorem dX12_judge_270 : decode cX12_judge 270 = .ok (.iload_n 2, 1) := by decide +kernel
theorem dX12_judge_271 : decode cX12_judge 271 = .ok (.if_icmp .ge 33, 3) := by decide +kernel
theorem dX12_judge_274 : decode cX12_judge 274 = .ok (.iload 6, 2) := by decide +kernel
theorem dX12_judge_276 : decode cX12_judge 276 = .ok (.ifCond .ne 15, 3) := by decide +kernel
theorem dX12_judge_279 : decode cX12_judge 279 = .ok (.aload_n 0, 1) := by decide +kernel
theorem dX12_judge_280 : decode cX12_judge 280 = .ok (.getfield 59, 3) := by decide +kernel
theorem dX12_judge_283 : decode cX12_judge 283 = .ok (.iload 7, 2) := by decide +kernel
theorem dX12_judge_285 : decode cX12_judge 285 = .ok (.iaload, 1) := by decide +kernel
theorem dX12_judge_286 : decode cX12_judge 286 = .ok (.bipush 11, 2) := by decide +kernel
theorem dX12_judge_288 : decode cX12_judge 288 = .ok (.if_icmp .ne 7, 3) := by decide +kernel
theorem dX12_judge_291 : decode cX12_judge 291 = .ok (.iconst 1, 1) := by decide +kernel
theorem dX12_judge_292 : decode cX12_judge 292 = .ok (.goto 4, 3) := by decide +kernel
theorem dX12_judge_295 : decode cX12_judge 295 = .ok (.iconst 0, 1) := by decide +kernel
theorem dX12_judge_296 : decode cX12_judge 296 = .ok (.istore 6, 2) := by decide +kernel
theorem dX12_judge_298 : decode cX12_judge 298 = .ok (.iinc 7 1, 3) := by decide +kernel
theorem dX12_judge_301 : decode cX12_judge 301 = .ok (.goto (-33), 3) := by decide +kernel
theorem dX12_judge_304 : decode cX12_judge 304 = .ok (.iload 6, 2) := by decide +kernel
theorem dX12_judge_306 : decode cX12_judge 306 = .ok (.ifCond .eq 7, 3) := by decide +kernel
theorem dX12_judge_309 : decode cX12_judge 309 = .ok (.iconst 0, 1) := by decide +kernel
theorem dX12_judge_310 : decode cX12_judge 310 = .ok (.goto 4, 3) := by decide +kernel
theorem dX12_judge_313 : decode cX12_judge 313 = .ok (.iconst 4, 1) := by decide +kernel
theorem dX12_judge_314 : decode cX12_judge 314 = .ok (.istore 5, 2) := by decide +kernel
theorem dX12_judge_316 : decode cX12_judge 316 = .ok (.iload 5, 2) := by decide +kernel
theorem dX12_judge_318 : decode cX12_judge 318 = .ok (.ifCond .le 14, 3) := by decide +kernel
theorem dX12_judge_321 : decode cX12_judge 321 = .ok (.aload_n 0, 1) := by decide +kernel
theorem dX12_judge_322 : decode cX12_judge 322 = .ok (.iload 5, 2) := by decide +kernel
theorem dX12_judge_324 : decode cX12_judge 324 = .ok (.putfield 196, 3) := by decide +kernel
theorem dX12_judge_327 : decode cX12_judge 327 = .ok (.aload_n 0, 1) := by decide +kernel
theorem dX12_judge_328 : decode cX12_judge 328 = .ok (.iload_n 3, 1) := by decide +kernel
theorem dX12_judge_329 : decode cX12_judge 329 = .ok (.putfield 199, 3) := by decide +kernel
theorem dX12_judge_332 : decode cX12_judge 332 = .ok (.iinc 3 1, 3) := by decide +kernel
theorem dX12_judge_335 : decode cX12_judge 335 = .ok (.goto (-321), 3) := by decide +kernel
theorem dX12_judge_338 : decode cX12_judge 338 = .ok (.aload_n 0, 1) := by decide +kernel
theorem dX12_judge_339 : decode cX12_judge 339 = .ok (.getfield 196, 3) := by decide +kernel
theorem dX12_judge_342 : decode cX12_judge 342 = .ok (.ifCond .ne 22, 3) := by decide +kernel
theorem dX12_judge_345 : decode cX12_judge 345 = .ok (.iload_n 2, 1) := by decide +kernel
theorem dX12_judge_346 : decode cX12_judge 346 = .ok (.ifCond .le 18, 3) := by decide +kernel
theorem dX12_judge_349 : decode cX12_judge 349 = .ok (.aload_n 0, 1) := by decide +kernel
theorem dX12_judge_350 : decode cX12_judge 350 = .ok (.iconst 5, 1) := by decide +kernel
theorem dX12_judge_351 : decode cX12_judge 351 = .ok (.putfield 196, 3) := by decide +kernel
theorem dX12_judge_354 : decode cX12_judge 354 = .ok (.aload_n 0, 1) := by decide +kernel
theorem dX12_judge_355 : decode cX12_judge 355 = .ok (.aload_n 0, 1) := by decide +kernel
theorem dX12_judge_356 : decode cX12_judge 356 = .ok (.getfield 47, 3) := by decide +kernel
theorem dX12_judge_359 : decode cX12_judge 359 = .ok (.iload_n 1, 1) := by decide +kernel
theorem dX12_judge_360 : decode cX12_judge 360 = .ok (.iaload, 1) := by decide +kernel
theorem dX12_judge_361 : decode cX12_judge 361 = .ok (.putfield 199, 3) := by decide +kernel
theorem dX12_judge_364 : decode cX12_judge 364 = .ok (.return_, 1) := by decide +kernel
theorem dX12_fault_0 : decode cX12_fault 0 = .ok (.aload_n 0, 1) := by decide +kernel
theorem dX12_fault_1 : decode cX12_fault 1 = .ok (.iload_n 1, 1) := by decide +kernel
theorem dX12_fault_2 : decode cX12_fault 2 = .ok (.invokevirtual 180, 3) := by decide +kernel
theorem dX12_fault_5 : decode cX12_fault 5 = .ok (.ifCond .eq 6, 3) := by decide +kernel
theorem dX12_fault_8 : decode cX12_fault 8 = .ok (.bipush (-101), 2) := by decide +kernel
theorem dX12_fault_10 : decode cX12_fault 10 = .ok (.ireturn, 1) := by decide +kernel
theorem dX12_fault_11 : decode cX12_fault 11 = .ok (.iload_n 2, 1) := by decide +kernel
theorem dX12_fault_12 : decode cX12_fault 12 = .ok (.i2l, 1) := by decide +kernel
theorem dX12_fault_13 : decode cX12_fault 13 = .ok (.lconst 0, 1) := by decide +kernel
theorem dX12_fault_14 : decode cX12_fault 14 = .ok (.lconst 1, 1) := by decide +kernel
theorem dX12_fault_15 : decode cX12_fault 15 = .ok (.invokestatic 147, 3) := by decide +kernel
theorem dX12_fault_18 : decode cX12_fault 18 = .ok (.ifCond .ne 6, 3) := by decide +kernel
theorem dX12_fault_21 : decode cX12_fault 21 = .ok (.bipush (-102), 2) := by decide +kernel
theorem dX12_fault_23 : decode cX12_fault 23 = .ok (.ireturn, 1) := by decide +kernel
theorem dX12_fault_24 : decode cX12_fault 24 = .ok (.aload_n 0, 1) := by decide +kernel
theorem dX12_fault_25 : decode cX12_fault 25 = .ok (.iload_n 1, 1) := by decide +kernel
theorem dX12_fault_26 : decode cX12_fault 26 = .ok (.invokevirtual 209, 3) := by decide +kernel
theorem dX12_fault_29 : decode cX12_fault 29 = .ok (.iload_n 2, 1) := by decide +kernel
theorem dX12_fault_30 : decode cX12_fault 30 = .ok (.ifCond .ne 10, 3) := by decide +kernel
theorem dX12_fault_33 : decode cX12_fault 33 = .ok (.aload_n 0, 1) := by decide +kernel
theorem dX12_fault_34 : decode cX12_fault 34 = .ok (.getfield 196, 3) := by decide +kernel
theorem dX12_fault_37 : decode cX12_fault 37 = .ok (.goto 7, 3) := by decide +kernel
theorem dX12_fault_40 : decode cX12_fault 40 = .ok (.aload_n 0, 1) := by decide +kernel
theorem dX12_fault_41 : decode cX12_fault 41 = .ok (.getfield 199, 3) := by decide +kernel
theorem dX12_fault_44 : decode cX12_fault 44 = .ok (.ireturn, 1) := by decide +kernel
theorem dX12_behind_0 : decode cX12_behind 0 = .ok (.iconst 0, 1) := by decide +kernel
theorem dX12_behind_1 : decode cX12_behind 1 = .ok (.istore_n 3, 1) := by decide +kernel
theorem dX12_behind_2 : decode cX12_behind 2 = .ok (.iload_n 2, 1) := by decide +kernel
theorem dX12_behind_3 : decode cX12_behind 3 = .ok (.iconst 1, 1) := by decide +kernel
theorem dX12_behind_4 : decode cX12_behind 4 = .ok (.iadd, 1) := by decide +kernel
theorem dX12_behind_5 : decode cX12_behind 5 = .ok (.istore 4, 2) := by decide +kernel
theorem dX12_behind_7 : decode cX12_behind 7 = .ok (.iconst 1, 1) := by decide +kernel
theorem dX12_behind_8 : decode cX12_behind 8 = .ok (.istore 5, 2) := by decide +kernel
theorem dX12_behind_10 : decode cX12_behind 10 = .ok (.iload 5, 2) := by decide +kernel
theorem dX12_behind_12 : decode cX12_behind 12 = .ok (.ifCond .eq 81, 3) := by decide +kernel
theorem dX12_behind_15 : decode cX12_behind 15 = .ok (.aload_n 0, 1) := by decide +kernel
theorem dX12_behind_16 : decode cX12_behind 16 = .ok (.getfield 50, 3) := by decide +kernel
theorem dX12_behind_19 : decode cX12_behind 19 = .ok (.bipush 40, 2) := by decide +kernel
theorem dX12_behind_21 : decode cX12_behind 21 = .ok (.iload_n 1, 1) := by decide +kernel
theorem dX12_behind_22 : decode cX12_behind 22 = .ok (.imul, 1) := by decide +kernel
theorem dX12_behind_23 : decode cX12_behind 23 = .ok (.iload 4, 2) := by decide +kernel
theorem dX12_behind_25 : decode cX12_behind 25 = .ok (.iadd, 1) := by decide +kernel
theorem dX12_behind_26 : decode cX12_behind 26 = .ok (.iaload, 1) := by decide +kernel
theorem dX12_behind_27 : decode cX12_behind 27 = .ok (.istore 6, 2) := by decide +kernel
theorem dX12_behind_29 : decode cX12_behind 29 = .ok (.iload_n 3, 1) := by decide +kernel
theorem dX12_behind_30 : decode cX12_behind 30 = .ok (.ifCond .ne 30, 3) := by decide +kernel
theorem dX12_behind_33 : decode cX12_behind 33 = .ok (.iload 6, 2) := by decide +kernel
theorem dX12_behind_35 : decode cX12_behind 35 = .ok (.bipush 16, 2) := by decide +kernel
theorem dX12_behind_37 : decode cX12_behind 37 = .ok (.if_icmp .eq 17, 3) := by decide +kernel
theorem dX12_behind_40 : decode cX12_behind 40 = .ok (.iload 6, 2) := by decide +kernel
theorem dX12_behind_42 : decode cX12_behind 42 = .ok (.bipush 14, 2) := by decide +kernel
theorem dX12_behind_44 : decode cX12_behind 44 = .ok (.if_icmp .eq 10, 3) := by decide +kernel
theorem dX12_behind_47 : decode cX12_behind 47 = .ok (.iload 6, 2) := by decide +kernel
theorem dX12_behind_49 : decode cX12_behind 49 = .ok (.bipush 15, 2) := by decide +kernel
theorem dX12_behind_51 : decode cX12_behind 51 = .ok (.if_icmp .ne 9, 3) := by decide +kernel
theorem dX12_behind_54 : decode cX12_behind 54 = .ok (.iconst 0, 1) := by decide +kernel
theorem dX12_behind_55 : decode cX12_behind 55 = .ok (.istore 5, 2) := by decide +kernel
theorem dX12_behind_57 : decode cX12_behind 57 = .ok (.goto 33, 3) := by decide +kernel
theorem dX12_behind_60 : decode cX12_behind 60 = .ok (.iload_n 3, 1) := by decide +kernel
theorem dX12_behind_61 : decode cX12_behind 61 = .ok (.iload 6, 2) := by decide +kernel
theorem dX12_behind_63 : decode cX12_behind 63 = .ok (.invokestatic 206, 3) := by decide +kernel
theorem dX12_behind_66 : decode cX12_behind 66 = .ok (.ifCond .eq 7, 3) := by decide +kernel
theorem dX12_behind_69 : decode cX12_behind 69 = .ok (.iconst 1, 1) := by decide +kernel
theorem dX12_behind_70 : decode cX12_behind 70 = .ok (.goto 15, 3) := by decide +kernel
theorem dX12_behind_73 : decode cX12_behind 73 = .ok (.iload 6, 2) := by decide +kernel
theorem dX12_behind_75 : decode cX12_behind 75 = .ok (.bipush 16, 2) := by decide +kernel
theorem dX12_behind_77 : decode cX12_behind 77 = .ok (.if_icmp .ne 7, 3) := by decide +kernel
theorem dX12_behind_80 : decode cX12_behind 80 = .ok (.iconst (-1), 1) := by decide +kernel
theorem dX12_behind_81 : decode cX12_behind 81 = .ok (.goto 4, 3) := by decide +kernel
theorem dX12_behind_84 : decode cX12_behind 84 = .ok (.iconst 0, 1) := by decide +kernel
theorem dX12_behind_85 : decode cX12_behind 85 = .ok (.iadd, 1) := by decide +kernel
theorem dX12_behind_86 : decode cX12_behind 86 = .ok (.istore_n 3, 1) := by decide +kernel
theorem dX12_behind_87 : decode cX12_behind 87 = .ok (.iinc 4 1, 3) := by decide +kernel
theorem dX12_behind_90 : decode cX12_behind 90 = .ok (.goto (-80), 3) := by decide +kernel
theorem dX12_behind_93 : decode cX12_behind 93 = .ok (.iload 4, 2) := by decide +kernel
theorem dX12_behind_95 : decode cX12_behind 95 = .ok (.ireturn, 1) := by decide +kernel
theorem dX12_endOf_0 : decode cX12_endOf 0 = .ok (.aload_n 0, 1) := by decide +kernel
theorem dX12_endOf_1 : decode cX12_endOf 1 = .ok (.iload_n 1, 1) := by decide +kernel
theorem dX12_endOf_2 : decode cX12_endOf 2 = .ok (.iload_n 2, 1) := by decide +kernel
theorem dX12_endOf_3 : decode cX12_endOf 3 = .ok (.invokevirtual 213, 3) := by decide +kernel
theorem dX12_endOf_6 : decode cX12_endOf 6 = .ok (.istore_n 3, 1) := by decide +kernel
theorem dX12_endOf_7 : decode cX12_endOf 7 = .ok (.aload_n 0, 1) := by decide +kernel
theorem dX12_endOf_8 : decode cX12_endOf 8 = .ok (.getfield 50, 3) := by decide +kernel
theorem dX12_endOf_11 : decode cX12_endOf 11 = .ok (.bipush 40, 2) := by decide +kernel
theorem dX12_endOf_13 : decode cX12_endOf 13 = .ok (.iload_n 1, 1) := by decide +kernel
theorem dX12_endOf_14 : decode cX12_endOf 14 = .ok (.imul, 1) := by decide +kernel
theorem dX12_endOf_15 : decode cX12_endOf 15 = .ok (.iload_n 3, 1) := by decide +kernel
theorem dX12_endOf_16 : decode cX12_endOf 16 = .ok (.iadd, 1) := by decide +kernel
theorem dX12_endOf_17 : decode cX12_endOf 17 = .ok (.iaload, 1) := by decide +kernel
theorem dX12_endOf_18 : decode cX12_endOf 18 = .ok (.bipush 16, 2) := by decide +kernel
theorem dX12_endOf_20 : decode cX12_endOf 20 = .ok (.if_icmp .eq 13, 3) := by decide +kernel
theorem dX12_endOf_23 : decode cX12_endOf 23 = .ok (.aload_n 0, 1) := by decide +kernel
theorem dX12_endOf_24 : decode cX12_endOf 24 = .ok (.iload_n 1, 1) := by decide +kernel
theorem dX12_endOf_25 : decode cX12_endOf 25 = .ok (.iload_n 3, 1) := by decide +kernel
theorem dX12_endOf_26 : decode cX12_endOf 26 = .ok (.invokevirtual 213, 3) := by decide +kernel
theorem dX12_endOf_29 : decode cX12_endOf 29 = .ok (.istore_n 3, 1) := by decide +kernel
theorem dX12_endOf_30 : decode cX12_endOf 30 = .ok (.goto (-23), 3) := by decide +kernel
theorem dX12_endOf_33 : decode cX12_endOf 33 = .ok (.iload_n 3, 1) := by decide +kernel
theorem dX12_endOf_34 : decode cX12_endOf 34 = .ok (.ireturn, 1) := by decide +kernel
theorem dX12_finishOf_0 : decode cX12_finishOf 0 = .ok (.aload_n 0, 1) := by decide +kernel
theorem dX12_finishOf_1 : decode cX12_finishOf 1 = .ok (.iload_n 1, 1) := by decide +kernel
theorem dX12_finishOf_2 : decode cX12_finishOf 2 = .ok (.iload_n 2, 1) := by decide +kernel
theorem dX12_finishOf_3 : decode cX12_finishOf 3 = .ok (.invokevirtual 213, 3) := by decide +kernel
theorem dX12_finishOf_6 : decode cX12_finishOf 6 = .ok (.istore_n 3, 1) := by decide +kernel
theorem dX12_finishOf_7 : decode cX12_finishOf 7 = .ok (.aload_n 0, 1) := by decide +kernel
theorem dX12_finishOf_8 : decode cX12_finishOf 8 = .ok (.getfield 50, 3) := by decide +kernel
theorem dX12_finishOf_11 : decode cX12_finishOf 11 = .ok (.bipush 40, 2) := by decide +kernel
theorem dX12_finishOf_13 : decode cX12_finishOf 13 = .ok (.iload_n 1, 1) := by decide +kernel
theorem dX12_finishOf_14 : decode cX12_finishOf 14 = .ok (.imul, 1) := by decide +kernel
theorem dX12_finishOf_15 : decode cX12_finishOf 15 = .ok (.iload_n 3, 1) := by decide +kernel
theorem dX12_finishOf_16 : decode cX12_finishOf 16 = .ok (.iadd, 1) := by decide +kernel
theorem dX12_finishOf_17 : decode cX12_finishOf 17 = .ok (.iaload, 1) := by decide +kernel
theorem dX12_finishOf_18 : decode cX12_finishOf 18 = .ok (.bipush 14, 2) := by decide +kernel
theorem dX12_finishOf_20 : decode cX12_finishOf 20 = .ok (.if_icmp .ne 13, 3) := by decide +kernel
theorem dX12_finishOf_23 : decode cX12_finishOf 23 = .ok (.aload_n 0, 1) := by decide +kernel
theorem dX12_finishOf_24 : decode cX12_finishOf 24 = .ok (.iload_n 1, 1) := by decide +kernel
theorem dX12_finishOf_25 : decode cX12_finishOf 25 = .ok (.iload_n 3, 1) := by decide +kernel
theorem dX12_finishOf_26 : decode cX12_finishOf 26 = .ok (.invokevirtual 213, 3) := by decide +kernel
theorem dX12_finishOf_29 : decode cX12_finishOf 29 = .ok (.istore_n 3, 1) := by decide +kernel
theorem dX12_finishOf_30 : decode cX12_finishOf 30 = .ok (.goto (-23), 3) := by decide +kernel
theorem dX12_finishOf_33 : decode cX12_finishOf 33 = .ok (.aload_n 0, 1) := by decide +kernel
theorem dX12_finishOf_34 : decode cX12_finishOf 34 = .ok (.getfield 50, 3) := by decide +kernel
theorem dX12_finishOf_37 : decode cX12_finishOf 37 = .ok (.bipush 40, 2) := by decide +kernel
theorem dX12_finishOf_39 : decode cX12_finishOf 39 = .ok (.iload_n 1, 1) := by decide +kernel
theorem dX12_finishOf_40 : decode cX12_finishOf 40 = .ok (.imul, 1) := by decide +kernel
theorem dX12_finishOf_41 : decode cX12_finishOf 41 = .ok (.iload_n 3, 1) := by decide +kernel
theorem dX12_finishOf_42 : decode cX12_finishOf 42 = .ok (.iadd, 1) := by decide +kernel
theorem dX12_finishOf_43 : decode cX12_finishOf 43 = .ok (.iaload, 1) := by decide +kernel
theorem dX12_finishOf_44 : decode cX12_finishOf 44 = .ok (.bipush 15, 2) := by decide +kernel
theorem dX12_finishOf_46 : decode cX12_finishOf 46 = .ok (.if_icmp .ne 7, 3) := by decide +kernel
theorem dX12_finishOf_49 : decode cX12_finishOf 49 = .ok (.iload_n 3, 1) := by decide +kernel
theorem dX12_finishOf_50 : decode cX12_finishOf 50 = .ok (.goto 4, 3) := by decide +kernel
theorem dX12_finishOf_53 : decode cX12_finishOf 53 = .ok (.iconst (-1), 1) := by decide +kernel
theorem dX12_finishOf_54 : decode cX12_finishOf 54 = .ok (.ireturn, 1) := by decide +kernel
theorem dX12_begin_0 : decode cX12_begin 0 = .ok (.aload_n 0, 1) := by decide +kernel
theorem dX12_begin_1 : decode cX12_begin 1 = .ok (.getfield 66, 3) := by decide +kernel
theorem dX12_begin_4 : decode cX12_begin 4 = .ok (.aload_n 0, 1) := by decide +kernel
theorem dX12_begin_5 : decode cX12_begin 5 = .ok (.getfield 217, 3) := by decide +kernel
theorem dX12_begin_8 : decode cX12_begin 8 = .ok (.iload_n 1, 1) := by decide +kernel
theorem dX12_begin_9 : decode cX12_begin 9 = .ok (.iastore, 1) := by decide +kernel
theorem dX12_begin_10 : decode cX12_begin 10 = .ok (.aload_n 0, 1) := by decide +kernel
theorem dX12_begin_11 : decode cX12_begin 11 = .ok (.getfield 69, 3) := by decide +kernel
theorem dX12_begin_14 : decode cX12_begin 14 = .ok (.aload_n 0, 1) := by decide +kernel
theorem dX12_begin_15 : decode cX12_begin 15 = .ok (.getfield 217, 3) := by decide +kernel
theorem dX12_begin_18 : decode cX12_begin 18 = .ok (.iload_n 2, 1) := by decide +kernel
theorem dX12_begin_19 : decode cX12_begin 19 = .ok (.iastore, 1) := by decide +kernel
theorem dX12_begin_20 : decode cX12_begin 20 = .ok (.aload_n 0, 1) := by decide +kernel
theorem dX12_begin_21 : decode cX12_begin 21 = .ok (.getfield 72, 3) := by decide +kernel
theorem dX12_begin_24 : decode cX12_begin 24 = .ok (.aload_n 0, 1) := by decide +kernel
theorem dX12_begin_25 : decode cX12_begin 25 = .ok (.getfield 217, 3) := by decide +kernel
theorem dX12_begin_28 : decode cX12_begin 28 = .ok (.iload_n 3, 1) := by decide +kernel
theorem dX12_begin_29 : decode cX12_begin 29 = .ok (.iastore, 1) := by decide +kernel
theorem dX12_begin_30 : decode cX12_begin 30 = .ok (.aload_n 0, 1) := by decide +kernel
theorem dX12_begin_31 : decode cX12_begin 31 = .ok (.getfield 75, 3) := by decide +kernel
theorem dX12_begin_34 : decode cX12_begin 34 = .ok (.aload_n 0, 1) := by decide +kernel
theorem dX12_begin_35 : decode cX12_begin 35 = .ok (.getfield 217, 3) := by decide +kernel
theorem dX12_begin_38 : decode cX12_begin 38 = .ok (.iconst 0, 1) := by decide +kernel
theorem dX12_begin_39 : decode cX12_begin 39 = .ok (.iastore, 1) := by decide +kernel
theorem dX12_begin_40 : decode cX12_begin 40 = .ok (.aload_n 0, 1) := by decide +kernel
theorem dX12_begin_41 : decode cX12_begin 41 = .ok (.getfield 78, 3) := by decide +kernel
theorem dX12_begin_44 : decode cX12_begin 44 = .ok (.aload_n 0, 1) := by decide +kernel
theorem dX12_begin_45 : decode cX12_begin 45 = .ok (.getfield 217, 3) := by decide +kernel
theorem dX12_begin_48 : decode cX12_begin 48 = .ok (.iconst (-1), 1) := by decide +kernel
theorem dX12_begin_49 : decode cX12_begin 49 = .ok (.iastore, 1) := by decide +kernel
theorem dX12_begin_50 : decode cX12_begin 50 = .ok (.aload_n 0, 1) := by decide +kernel
theorem dX12_begin_51 : decode cX12_begin 51 = .ok (.getfield 81, 3) := by decide +kernel
theorem dX12_begin_54 : decode cX12_begin 54 = .ok (.aload_n 0, 1) := by decide +kernel
theorem dX12_begin_55 : decode cX12_begin 55 = .ok (.getfield 217, 3) := by decide +kernel
theorem dX12_begin_58 : decode cX12_begin 58 = .ok (.iconst (-1), 1) := by decide +kernel
theorem dX12_begin_59 : decode cX12_begin 59 = .ok (.iastore, 1) := by decide +kernel
theorem dX12_begin_60 : decode cX12_begin 60 = .ok (.aload_n 0, 1) := by decide +kernel
theorem dX12_begin_61 : decode cX12_begin 61 = .ok (.dup, 1) := by decide +kernel
theorem dX12_begin_62 : decode cX12_begin 62 = .ok (.getfield 217, 3) := by decide +kernel
theorem dX12_begin_65 : decode cX12_begin 65 = .ok (.iconst 1, 1) := by decide +kernel
theorem dX12_begin_66 : decode cX12_begin 66 = .ok (.iadd, 1) := by decide +kernel
theorem dX12_begin_67 : decode cX12_begin 67 = .ok (.putfield 217, 3) := by decide +kernel
theorem dX12_begin_70 : decode cX12_begin 70 = .ok (.return_, 1) := by decide +kernel
theorem dX12_findAct_0 : decode cX12_findAct 0 = .ok (.aload_n 0, 1) := by decide +kernel
theorem dX12_findAct_1 : decode cX12_findAct 1 = .ok (.aload_n 0, 1) := by decide +kernel
theorem dX12_findAct_2 : decode cX12_findAct 2 = .ok (.getfield 217, 3) := by decide +kernel
theorem dX12_findAct_5 : decode cX12_findAct 5 = .ok (.iconst 1, 1) := by decide +kernel
theorem dX12_findAct_6 : decode cX12_findAct 6 = .ok (.isub, 1) := by decide +kernel
theorem dX12_findAct_7 : decode cX12_findAct 7 = .ok (.putfield 220, 3) := by decide +kernel
theorem dX12_findAct_10 : decode cX12_findAct 10 = .ok (.aload_n 0, 1) := by decide +kernel
theorem dX12_findAct_11 : decode cX12_findAct 11 = .ok (.getfield 220, 3) := by decide +kernel
theorem dX12_findAct_14 : decode cX12_findAct 14 = .ok (.ifCond .lt 30, 3) := by decide +kernel
theorem dX12_findAct_17 : decode cX12_findAct 17 = .ok (.aload_n 0, 1) := by decide +kernel
theorem dX12_findAct_18 : decode cX12_findAct 18 = .ok (.getfield 66, 3) := by decide +kernel
theorem dX12_findAct_21 : decode cX12_findAct 21 = .ok (.aload_n 0, 1) := by decide +kernel
theorem dX12_findAct_22 : decode cX12_findAct 22 = .ok (.getfield 220, 3) := by decide +kernel
theorem dX12_findAct_25 : decode cX12_findAct 25 = .ok (.iaload, 1) := by decide +kernel
theorem dX12_findAct_26 : decode cX12_findAct 26 = .ok (.bipush 17, 2) := by decide +kernel
theorem dX12_findAct_28 : decode cX12_findAct 28 = .ok (.if_icmp .eq 16, 3) := by decide +kernel
theorem dX12_findAct_31 : decode cX12_findAct 31 = .ok (.aload_n 0, 1) := by decide +kernel
theorem dX12_findAct_32 : decode cX12_findAct 32 = .ok (.dup, 1) := by decide +kernel
theorem dX12_findAct_33 : decode cX12_findAct 33 = .ok (.getfield 220, 3) := by decide +kernel
theorem dX12_findAct_36 : decode cX12_findAct 36 = .ok (.iconst 1, 1) := by decide +kernel
theorem dX12_findAct_37 : decode cX12_findAct 37 = .ok (.isub, 1) := by decide +kernel
theorem dX12_findAct_38 : decode cX12_findAct 38 = .ok (.putfield 220, 3) := by decide +kernel
theorem dX12_findAct_41 : decode cX12_findAct 41 = .ok (.goto (-31), 3) := by decide +kernel
theorem dX12_findAct_44 : decode cX12_findAct 44 = .ok (.return_, 1) := by decide +kernel
theorem dX12_beginAct_0 : decode cX12_beginAct 0 = .ok (.iconst 0, 1) := by decide +kernel
theorem dX12_beginAct_1 : decode cX12_beginAct 1 = .ok (.istore_n 3, 1) := by decide +kernel
theorem dX12_beginAct_2 : decode cX12_beginAct 2 = .ok (.iload_n 3, 1) := by decide +kernel
theorem dX12_beginAct_3 : decode cX12_beginAct 3 = .ok (.bipush 8, 2) := by decide +kernel
theorem dX12_beginAct_5 : decode cX12_beginAct 5 = .ok (.if_icmp .ge 24, 3) := by decide +kernel
theorem dX12_beginAct_8 : decode cX12_beginAct 8 = .ok (.aload_n 0, 1) := by decide +kernel
theorem dX12_beginAct_9 : decode cX12_beginAct 9 = .ok (.getfield 84, 3) := by decide +kernel
theorem dX12_beginAct_12 : decode cX12_beginAct 12 = .ok (.bipush 8, 2) := by decide +kernel
theorem dX12_beginAct_14 : decode cX12_beginAct 14 = .ok (.aload_n 0, 1) := by decide +kernel
theorem dX12_beginAct_15 : decode cX12_beginAct 15 = .ok (.getfield 223, 3) := by decide +kernel
theorem dX12_beginAct_18 : decode cX12_beginAct 18 = .ok (.imul, 1) := by decide +kernel
theorem dX12_beginAct_19 : decode cX12_beginAct 19 = .ok (.iload_n 3, 1) := by decide +kernel
theorem dX12_beginAct_20 : decode cX12_beginAct 20 = .ok (.iadd, 1) := by decide +kernel
theorem dX12_beginAct_21 : decode cX12_beginAct 21 = .ok (.iconst (-1), 1) := by decide +kernel
theorem dX12_beginAct_22 : decode cX12_beginAct 22 = .ok (.iastore, 1) := by decide +kernel
theorem dX12_beginAct_23 : decode cX12_beginAct 23 = .ok (.iinc 3 1, 3) := by decide +kernel
theorem dX12_beginAct_26 : decode cX12_beginAct 26 = .ok (.goto (-24), 3) := by decide +kernel
theorem dX12_beginAct_29 : decode cX12_beginAct 29 = .ok (.aload_n 0, 1) := by decide +kernel
theorem dX12_beginAct_30 : decode cX12_beginAct 30 = .ok (.getfield 84, 3) := by decide +kernel
theorem dX12_beginAct_33 : decode cX12_beginAct 33 = .ok (.bipush 8, 2) := by decide +kernel
theorem dX12_beginAct_35 : decode cX12_beginAct 35 = .ok (.aload_n 0, 1) := by decide +kernel
theorem dX12_beginAct_36 : decode cX12_beginAct 36 = .ok (.getfield 223, 3) := by decide +kernel
theorem dX12_beginAct_39 : decode cX12_beginAct 39 = .ok (.imul, 1) := by decide +kernel
theorem dX12_beginAct_40 : decode cX12_beginAct 40 = .ok (.iload_n 2, 1) := by decide +kernel
theorem dX12_beginAct_41 : decode cX12_beginAct 41 = .ok (.iastore, 1) := by decide +kernel
theorem dX12_beginAct_42 : decode cX12_beginAct 42 = .ok (.aload_n 0, 1) := by decide +kernel
theorem dX12_beginAct_43 : decode cX12_beginAct 43 = .ok (.dup, 1) := by decide +kernel
theorem dX12_beginAct_44 : decode cX12_beginAct 44 = .ok (.getfield 223, 3) := by decide +kernel
theorem dX12_beginAct_47 : decode cX12_beginAct 47 = .ok (.iconst 1, 1) := by decide +kernel
theorem dX12_beginAct_48 : decode cX12_beginAct 48 = .ok (.iadd, 1) := by decide +kernel
theorem dX12_beginAct_49 : decode cX12_beginAct 49 = .ok (.putfield 223, 3) := by decide +kernel
theorem dX12_beginAct_52 : decode cX12_beginAct 52 = .ok (.aload_n 0, 1) := by decide +kernel
theorem dX12_beginAct_53 : decode cX12_beginAct 53 = .ok (.bipush 17, 2) := by decide +kernel
theorem dX12_beginAct_55 : decode cX12_beginAct 55 = .ok (.iconst (-1), 1) := by decide +kernel
theorem dX12_beginAct_56 : decode cX12_beginAct 56 = .ok (.iload_n 1, 1) := by decide +kernel
theorem dX12_beginAct_57 : decode cX12_beginAct 57 = .ok (.invokevirtual 226, 3) := by decide +kernel
theorem dX12_beginAct_60 : decode cX12_beginAct 60 = .ok (.aload_n 0, 1) := by decide +kernel
theorem dX12_beginAct_61 : decode cX12_beginAct 61 = .ok (.getfield 75, 3) := by decide +kernel
theorem dX12_beginAct_64 : decode cX12_beginAct 64 = .ok (.aload_n 0, 1) := by decide +kernel
theorem dX12_beginAct_65 : decode cX12_beginAct 65 = .ok (.getfield 217, 3) := by decide +kernel
theorem dX12_beginAct_68 : decode cX12_beginAct 68 = .ok (.iconst 1, 1) := by decide +kernel
theorem dX12_beginAct_69 : decode cX12_beginAct 69 = .ok (.isub, 1) := by decide +kernel
theorem dX12_beginAct_70 : decode cX12_beginAct 70 = .ok (.iconst 0, 1) := by decide +kernel
theorem dX12_beginAct_71 : decode cX12_beginAct 71 = .ok (.iastore, 1) := by decide +kernel
theorem dX12_beginAct_72 : decode cX12_beginAct 72 = .ok (.aload_n 0, 1) := by decide +kernel
theorem dX12_beginAct_73 : decode cX12_beginAct 73 = .ok (.aload_n 0, 1) := by decide +kernel
theorem dX12_beginAct_74 : decode cX12_beginAct 74 = .ok (.getfield 217, 3) := by decide +kernel
theorem dX12_beginAct_77 : decode cX12_beginAct 77 = .ok (.iconst 1, 1) := by decide +kernel
theorem dX12_beginAct_78 : decode cX12_beginAct 78 = .ok (.isub, 1) := by decide +kernel
theorem dX12_beginAct_79 : decode cX12_beginAct 79 = .ok (.putfield 220, 3) := by decide +kernel
theorem dX12_beginAct_82 : decode cX12_beginAct 82 = .ok (.aload_n 0, 1) := by decide +kernel
theorem dX12_beginAct_83 : decode cX12_beginAct 83 = .ok (.iconst 0, 1) := by decide +kernel
theorem dX12_beginAct_84 : decode cX12_beginAct 84 = .ok (.invokevirtual 230, 3) := by decide +kernel
theorem dX12_beginAct_87 : decode cX12_beginAct 87 = .ok (.aload_n 0, 1) := by decide +kernel
theorem dX12_beginAct_88 : decode cX12_beginAct 88 = .ok (.iconst (-1), 1) := by decide +kernel
theorem dX12_beginAct_89 : decode cX12_beginAct 89 = .ok (.invokevirtual 233, 3) := by decide +kernel
theorem dX12_beginAct_92 : decode cX12_beginAct 92 = .ok (.return_, 1) := by decide +kernel
theorem dX12_beginScope_0 : decode cX12_beginScope 0 = .ok (.aload_n 0, 1) := by decide +kernel
theorem dX12_beginScope_1 : decode cX12_beginScope 1 = .ok (.bipush 12, 2) := by decide +kernel
theorem dX12_beginScope_3 : decode cX12_beginScope 3 = .ok (.iload_n 1, 1) := by decide +kernel
theorem dX12_beginScope_4 : decode cX12_beginScope 4 = .ok (.aload_n 0, 1) := by decide +kernel
theorem dX12_beginScope_5 : decode cX12_beginScope 5 = .ok (.getfield 236, 3) := by decide +kernel
theorem dX12_beginScope_8 : decode cX12_beginScope 8 = .ok (.invokevirtual 226, 3) := by decide +kernel
theorem dX12_beginScope_11 : decode cX12_beginScope 11 = .ok (.aload_n 0, 1) := by decide +kernel
theorem dX12_beginScope_12 : decode cX12_beginScope 12 = .ok (.dup, 1) := by decide +kernel
theorem dX12_beginScope_13 : decode cX12_beginScope 13 = .ok (.getfield 236, 3) := by decide +kernel
theorem dX12_beginScope_16 : decode cX12_beginScope 16 = .ok (.iconst 1, 1) := by decide +kernel
theorem dX12_beginScope_17 : decode cX12_beginScope 17 = .ok (.iadd, 1) := by decide +kernel
theorem dX12_beginScope_18 : decode cX12_beginScope 18 = .ok (.putfield 236, 3) := by decide +kernel
theorem dX12_beginScope_21 : decode cX12_beginScope 21 = .ok (.return_, 1) := by decide +kernel
theorem dX12_step_0 : decode cX12_step 0 = .ok (.aload_n 0, 1) := by decide +kernel
theorem dX12_step_1 : decode cX12_step 1 = .ok (.getfield 239, 3) := by decide +kernel
theorem dX12_step_4 : decode cX12_step 4 = .ok (.sipush 160, 3) := by decide +kernel
theorem dX12_step_7 : decode cX12_step 7 = .ok (.if_icmp .ne 9, 3) := by decide +kernel
theorem dX12_step_10 : decode cX12_step 10 = .ok (.aload_n 0, 1) := by decide +kernel
theorem dX12_step_11 : decode cX12_step 11 = .ok (.invokevirtual 242, 3) := by decide +kernel
theorem dX12_step_14 : decode cX12_step 14 = .ok (.iconst 0, 1) := by decide +kernel
theorem dX12_step_15 : decode cX12_step 15 = .ok (.ireturn, 1) := by decide +kernel
theorem dX12_step_16 : decode cX12_step 16 = .ok (.aload_n 0, 1) := by decide +kernel
theorem dX12_step_17 : decode cX12_step 17 = .ok (.dup, 1) := by decide +kernel
theorem dX12_step_18 : decode cX12_step 18 = .ok (.getfield 239, 3) := by decide +kernel
theorem dX12_step_21 : decode cX12_step 21 = .ok (.iconst 1, 1) := by decide +kernel
theorem dX12_step_22 : decode cX12_step 22 = .ok (.iadd, 1) := by decide +kernel
theorem dX12_step_23 : decode cX12_step 23 = .ok (.putfield 239, 3) := by decide +kernel
theorem dX12_step_26 : decode cX12_step 26 = .ok (.iconst 1, 1) := by decide +kernel
theorem dX12_step_27 : decode cX12_step 27 = .ok (.ireturn, 1) := by decide +kernel
theorem dX12_newFailure_0 : decode cX12_newFailure 0 = .ok (.aload_n 0, 1) := by decide +kernel
theorem dX12_newFailure_1 : decode cX12_newFailure 1 = .ok (.getfield 245, 3) := by decide +kernel
theorem dX12_newFailure_4 : decode cX12_newFailure 4 = .ok (.istore 4, 2) := by decide +kernel
theorem dX12_newFailure_6 : decode cX12_newFailure 6 = .ok (.aload_n 0, 1) := by decide +kernel
theorem dX12_newFailure_7 : decode cX12_newFailure 7 = .ok (.getfield 111, 3) := by decide +kernel
theorem dX12_newFailure_10 : decode cX12_newFailure 10 = .ok (.iload 4, 2) := by decide +kernel
theorem dX12_newFailure_12 : decode cX12_newFailure 12 = .ok (.iload_n 1, 1) := by decide +kernel
theorem dX12_newFailure_13 : decode cX12_newFailure 13 = .ok (.iastore, 1) := by decide +kernel
theorem dX12_newFailure_14 : decode cX12_newFailure 14 = .ok (.aload_n 0, 1) := by decide +kernel
theorem dX12_newFailure_15 : decode cX12_newFailure 15 = .ok (.getfield 114, 3) := by decide +kernel
theorem dX12_newFailure_18 : decode cX12_newFailure 18 = .ok (.iload 4, 2) := by decide +kernel
theorem dX12_newFailure_20 : decode cX12_newFailure 20 = .ok (.aload_n 0, 1) := by decide +kernel
theorem dX12_newFailure_21 : decode cX12_newFailure 21 = .ok (.getfield 72, 3) := by decide +kernel
theorem dX12_newFailure_24 : decode cX12_newFailure 24 = .ok (.aload_n 0, 1) := by decide +kernel
theorem dX12_newFailure_25 : decode cX12_newFailure 25 = .ok (.getfield 220, 3) := by decide +kernel
theorem dX12_newFailure_28 : decode cX12_newFailure 28 = .ok (.iaload, 1) := by decide +kernel
theorem dX12_newFailure_29 : decode cX12_newFailure 29 = .ok (.iastore, 1) := by decide +kernel
theorem dX12_newFailure_30 : decode cX12_newFailure 30 = .ok (.aload_n 0, 1) := by decide +kernel
theorem dX12_newFailure_31 : decode cX12_newFailure 31 = .ok (.getfield 117, 3) := by decide +kernel
theorem dX12_newFailure_34 : decode cX12_newFailure 34 = .ok (.iload 4, 2) := by decide +kernel
theorem dX12_newFailure_36 : decode cX12_newFailure 36 = .ok (.iload_n 2, 1) := by decide +kernel
theorem dX12_newFailure_37 : decode cX12_newFailure 37 = .ok (.iastore, 1) := by decide +kernel
theorem dX12_newFailure_38 : decode cX12_newFailure 38 = .ok (.aload_n 0, 1) := by decide +kernel
theorem dX12_newFailure_39 : decode cX12_newFailure 39 = .ok (.getfield 120, 3) := by decide +kernel
theorem dX12_newFailure_42 : decode cX12_newFailure 42 = .ok (.iload 4, 2) := by decide +kernel
theorem dX12_newFailure_44 : decode cX12_newFailure 44 = .ok (.iload_n 3, 1) := by decide +kernel
theorem dX12_newFailure_45 : decode cX12_newFailure 45 = .ok (.iastore, 1) := by decide +kernel
theorem dX12_newFailure_46 : decode cX12_newFailure 46 = .ok (.aload_n 0, 1) := by decide +kernel
theorem dX12_newFailure_47 : decode cX12_newFailure 47 = .ok (.getfield 123, 3) := by decide +kernel
theorem dX12_newFailure_50 : decode cX12_newFailure 50 = .ok (.iload 4, 2) := by decide +kernel
theorem dX12_newFailure_52 : decode cX12_newFailure 52 = .ok (.iconst (-1), 1) := by decide +kernel
theorem dX12_newFailure_53 : decode cX12_newFailure 53 = .ok (.iastore, 1) := by decide +kernel
theorem dX12_newFailure_54 : decode cX12_newFailure 54 = .ok (.aload_n 0, 1) := by decide +kernel
theorem dX12_newFailure_55 : decode cX12_newFailure 55 = .ok (.getfield 126, 3) := by decide +kernel
theorem dX12_newFailure_58 : decode cX12_newFailure 58 = .ok (.iload 4, 2) := by decide +kernel
theorem dX12_newFailure_60 : decode cX12_newFailure 60 = .ok (.iconst (-1), 1) := by decide +kernel
theorem dX12_newFailure_61 : decode cX12_newFailure 61 = .ok (.iastore, 1) := by decide +kernel
theorem dX12_newFailure_62 : decode cX12_newFailure 62 = .ok (.aload_n 0, 1) := by decide +kernel
theorem dX12_newFailure_63 : decode cX12_newFailure 63 = .ok (.dup, 1) := by decide +kernel
theorem dX12_newFailure_64 : decode cX12_newFailure 64 = .ok (.getfield 245, 3) := by decide +kernel
theorem dX12_newFailure_67 : decode cX12_newFailure 67 = .ok (.iconst 1, 1) := by decide +kernel
theorem dX12_newFailure_68 : decode cX12_newFailure 68 = .ok (.iadd, 1) := by decide +kernel
theorem dX12_newFailure_69 : decode cX12_newFailure 69 = .ok (.putfield 245, 3) := by decide +kernel
theorem dX12_newFailure_72 : decode cX12_newFailure 72 = .ok (.iload 4, 2) := by decide +kernel
theorem dX12_newFailure_74 : decode cX12_newFailure 74 = .ok (.ireturn, 1) := by decide +kernel
theorem dX12_fail_0 : decode cX12_fail 0 = .ok (.aload_n 0, 1) := by decide +kernel
theorem dX12_fail_1 : decode cX12_fail 1 = .ok (.getfield 245, 3) := by decide +kernel
theorem dX12_fail_4 : decode cX12_fail 4 = .ok (.bipush 16, 2) := by decide +kernel
theorem dX12_fail_6 : decode cX12_fail 6 = .ok (.if_icmp .ne 8, 3) := by decide +kernel
theorem dX12_fail_9 : decode cX12_fail 9 = .ok (.aload_n 0, 1) := by decide +kernel
theorem dX12_fail_10 : decode cX12_fail 10 = .ok (.invokevirtual 242, 3) := by decide +kernel
theorem dX12_fail_13 : decode cX12_fail 13 = .ok (.return_, 1) := by decide +kernel
theorem dX12_fail_14 : decode cX12_fail 14 = .ok (.aload_n 0, 1) := by decide +kernel
theorem dX12_fail_15 : decode cX12_fail 15 = .ok (.aload_n 0, 1) := by decide +kernel
theorem dX12_fail_16 : decode cX12_fail 16 = .ok (.iload_n 1, 1) := by decide +kernel
theorem dX12_fail_17 : decode cX12_fail 17 = .ok (.iload_n 2, 1) := by decide +kernel
theorem dX12_fail_18 : decode cX12_fail 18 = .ok (.iload_n 3, 1) := by decide +kernel
theorem dX12_fail_19 : decode cX12_fail 19 = .ok (.invokevirtual 248, 3) := by decide +kernel
theorem dX12_fail_22 : decode cX12_fail 22 = .ok (.putfield 252, 3) := by decide +kernel
theorem dX12_fail_25 : decode cX12_fail 25 = .ok (.aload_n 0, 1) := by decide +kernel
theorem dX12_fail_26 : decode cX12_fail 26 = .ok (.iconst 3, 1) := by decide +kernel
theorem dX12_fail_27 : decode cX12_fail 27 = .ok (.putfield 255, 3) := by decide +kernel
theorem dX12_fail_30 : decode cX12_fail 30 = .ok (.return_, 1) := by decide +kernel
theorem dX12_hasOpen_0 : decode cX12_hasOpen 0 = .ok (.iconst 0, 1) := by decide +kernel
theorem dX12_hasOpen_1 : decode cX12_hasOpen 1 = .ok (.istore_n 2, 1) := by decide +kernel
theorem dX12_hasOpen_2 : decode cX12_hasOpen 2 = .ok (.iload_n 1, 1) := by decide +kernel
theorem dX12_hasOpen_3 : decode cX12_hasOpen 3 = .ok (.iconst 1, 1) := by decide +kernel
theorem dX12_hasOpen_4 : decode cX12_hasOpen 4 = .ok (.iadd, 1) := by decide +kernel
theorem dX12_hasOpen_5 : decode cX12_hasOpen 5 = .ok (.istore_n 3, 1) := by decide +kernel
theorem dX12_hasOpen_6 : decode cX12_hasOpen 6 = .ok (.iload_n 3, 1) := by decide +kernel
theorem dX12_hasOpen_7 : decode cX12_hasOpen 7 = .ok (.aload_n 0, 1) := by decide +kernel
theorem dX12_hasOpen_8 : decode cX12_hasOpen 8 = .ok (.getfield 258, 3) := by decide +kernel
theorem dX12_hasOpen_11 : decode cX12_hasOpen 11 = .ok (.if_icmp .ge 48, 3) := by decide +kernel
theorem dX12_hasOpen_14 : decode cX12_hasOpen 14 = .ok (.iload_n 2, 1) := by decide +kernel
theorem dX12_hasOpen_15 : decode cX12_hasOpen 15 = .ok (.ifCond .ne 32, 3) := by decide +kernel
theorem dX12_hasOpen_18 : decode cX12_hasOpen 18 = .ok (.aload_n 0, 1) := by decide +kernel
theorem dX12_hasOpen_19 : decode cX12_hasOpen 19 = .ok (.getfield 102, 3) := by decide +kernel
theorem dX12_hasOpen_22 : decode cX12_hasOpen 22 = .ok (.iload_n 3, 1) := by decide +kernel
theorem dX12_hasOpen_23 : decode cX12_hasOpen 23 = .ok (.baload, 1) := by decide +kernel
theorem dX12_hasOpen_24 : decode cX12_hasOpen 24 = .ok (.ifCond .eq 27, 3) := by decide +kernel
theorem dX12_hasOpen_27 : decode cX12_hasOpen 27 = .ok (.aload_n 0, 1) := by decide +kernel
theorem dX12_hasOpen_28 : decode cX12_hasOpen 28 = .ok (.getfield 90, 3) := by decide +kernel
theorem dX12_hasOpen_31 : decode cX12_hasOpen 31 = .ok (.iload_n 3, 1) := by decide +kernel
theorem dX12_hasOpen_32 : decode cX12_hasOpen 32 = .ok (.iaload, 1) := by decide +kernel
theorem dX12_hasOpen_33 : decode cX12_hasOpen 33 = .ok (.iconst 2, 1) := by decide +kernel
theorem dX12_hasOpen_34 : decode cX12_hasOpen 34 = .ok (.if_icmp .ne 17, 3) := by decide +kernel
theorem dX12_hasOpen_37 : decode cX12_hasOpen 37 = .ok (.aload_n 0, 1) := by decide +kernel
theorem dX12_hasOpen_38 : decode cX12_hasOpen 38 = .ok (.getfield 93, 3) := by decide +kernel
theorem dX12_hasOpen_41 : decode cX12_hasOpen 41 = .ok (.iload_n 3, 1) := by decide +kernel
theorem dX12_hasOpen_42 : decode cX12_hasOpen 42 = .ok (.iaload, 1) := by decide +kernel
theorem dX12_hasOpen_43 : decode cX12_hasOpen 43 = .ok (.iload_n 1, 1) := by decide +kernel
theorem dX12_hasOpen_44 : decode cX12_hasOpen 44 = .ok (.if_icmp .ne 7, 3) := by decide +kernel
theorem dX12_hasOpen_47 : decode cX12_hasOpen 47 = .ok (.iconst 1, 1) := by decide +kernel
theorem dX12_hasOpen_48 : decode cX12_hasOpen 48 = .ok (.goto 4, 3) := by decide +kernel
theorem dX12_hasOpen_51 : decode cX12_hasOpen 51 = .ok (.iconst 0, 1) := by decide +kernel
theorem dX12_hasOpen_52 : decode cX12_hasOpen 52 = .ok (.istore_n 2, 1) := by decide +kernel
theorem dX12_hasOpen_53 : decode cX12_hasOpen 53 = .ok (.iinc 3 1, 3) := by decide +kernel
theorem dX12_hasOpen_56 : decode cX12_hasOpen 56 = .ok (.goto (-50), 3) := by decide +kernel
theorem dX12_hasOpen_59 : decode cX12_hasOpen 59 = .ok (.iload_n 2, 1) := by decide +kernel
theorem dX12_hasOpen_60 : decode cX12_hasOpen 60 = .ok (.ireturn, 1) := by decide +kernel
theorem dX12_giveBack_0 : decode cX12_giveBack 0 = .ok (.aload_n 0, 1) := by decide +kernel
theorem dX12_giveBack_1 : decode cX12_giveBack 1 = .ok (.getfield 102, 3) := by decide +kernel
theorem dX12_giveBack_4 : decode cX12_giveBack 4 = .ok (.iload_n 1, 1) := by decide +kernel
theorem dX12_giveBack_5 : decode cX12_giveBack 5 = .ok (.iconst 0, 1) := by decide +kernel
theorem dX12_giveBack_6 : decode cX12_giveBack 6 = .ok (.bastore, 1) := by decide +kernel
theorem dX12_giveBack_7 : decode cX12_giveBack 7 = .ok (.iload_n 1, 1) := by decide +kernel
theorem dX12_giveBack_8 : decode cX12_giveBack 8 = .ok (.iconst 1, 1) := by decide +kernel
theorem dX12_giveBack_9 : decode cX12_giveBack 9 = .ok (.iadd, 1) := by decide +kernel
theorem dX12_giveBack_10 : decode cX12_giveBack 10 = .ok (.istore_n 3, 1) := by decide +kernel
theorem dX12_giveBack_11 : decode cX12_giveBack 11 = .ok (.iload_n 3, 1) := by decide +kernel
theorem dX12_giveBack_12 : decode cX12_giveBack 12 = .ok (.aload_n 0, 1) := by decide +kernel
theorem dX12_giveBack_13 : decode cX12_giveBack 13 = .ok (.getfield 258, 3) := by decide +kernel
theorem dX12_giveBack_16 : decode cX12_giveBack 16 = .ok (.if_icmp .ge 40, 3) := by decide +kernel
theorem dX12_giveBack_19 : decode cX12_giveBack 19 = .ok (.aload_n 0, 1) := by decide +kernel
theorem dX12_giveBack_20 : decode cX12_giveBack 20 = .ok (.getfield 90, 3) := by decide +kernel
theorem dX12_giveBack_23 : decode cX12_giveBack 23 = .ok (.iload_n 3, 1) := by decide +kernel
theorem dX12_giveBack_24 : decode cX12_giveBack 24 = .ok (.iaload, 1) := by decide +kernel
theorem dX12_giveBack_25 : decode cX12_giveBack 25 = .ok (.iconst 2, 1) := by decide +kernel
theorem dX12_giveBack_26 : decode cX12_giveBack 26 = .ok (.if_icmp .ne 24, 3) := by decide +kernel
theorem dX12_giveBack_29 : decode cX12_giveBack 29 = .ok (.aload_n 0, 1) := by decide +kernel
theorem dX12_giveBack_30 : decode cX12_giveBack 30 = .ok (.getfield 102, 3) := by decide +kernel
theorem dX12_giveBack_33 : decode cX12_giveBack 33 = .ok (.aload_n 0, 1) := by decide +kernel
theorem dX12_giveBack_34 : decode cX12_giveBack 34 = .ok (.getfield 93, 3) := by decide +kernel
theorem dX12_giveBack_37 : decode cX12_giveBack 37 = .ok (.iload_n 3, 1) := by decide +kernel
theorem dX12_giveBack_38 : decode cX12_giveBack 38 = .ok (.iaload, 1) := by decide +kernel
theorem dX12_giveBack_39 : decode cX12_giveBack 39 = .ok (.baload, 1) := by decide +kernel
theorem dX12_giveBack_40 : decode cX12_giveBack 40 = .ok (.ifCond .ne 10, 3) := by decide +kernel
theorem dX12_giveBack_43 : decode cX12_giveBack 43 = .ok (.aload_n 0, 1) := by decide +kernel
theorem dX12_giveBack_44 : decode cX12_giveBack 44 = .ok (.getfield 102, 3) := by decide +kernel
theorem dX12_giveBack_47 : decode cX12_giveBack 47 = .ok (.iload_n 3, 1) := by decide +kernel
theorem dX12_giveBack_48 : decode cX12_giveBack 48 = .ok (.iconst 0, 1) := by decide +kernel
theorem dX12_giveBack_49 : decode cX12_giveBack 49 = .ok (.bastore, 1) := by decide +kernel
theorem dX12_giveBack_50 : decode cX12_giveBack 50 = .ok (.iinc 3 1, 3) := by decide +kernel
theorem dX12_giveBack_53 : decode cX12_giveBack 53 = .ok (.goto (-42), 3) := by decide +kernel
theorem dX12_giveBack_56 : decode cX12_giveBack 56 = .ok (.aload_n 0, 1) := by decide +kernel
theorem dX12_giveBack_57 : decode cX12_giveBack 57 = .ok (.getfield 90, 3) := by decide +kernel
theorem dX12_giveBack_60 : decode cX12_giveBack 60 = .ok (.iload_n 1, 1) := by decide +kernel
theorem dX12_giveBack_61 : decode cX12_giveBack 61 = .ok (.iaload, 1) := by decide +kernel
theorem dX12_giveBack_62 : decode cX12_giveBack 62 = .ok (.iconst 2, 1) := by decide +kernel
theorem dX12_giveBack_63 : decode cX12_giveBack 63 = .ok (.if_icmp .eq 25, 3) := by decide +kernel
theorem dX12_giveBack_66 : decode cX12_giveBack 66 = .ok (.aload_n 0, 1) := by decide +kernel
theorem dX12_giveBack_67 : decode cX12_giveBack 67 = .ok (.aload_n 0, 1) := by decide +kernel
theorem dX12_giveBack_68 : decode cX12_giveBack 68 = .ok (.getfield 87, 3) := by decide +kernel
theorem dX12_giveBack_71 : decode cX12_giveBack 71 = .ok (.iload_n 1, 1) := by decide +kernel
theorem dX12_giveBack_72 : decode cX12_giveBack 72 = .ok (.iaload, 1) := by decide +kernel
theorem dX12_giveBack_73 : decode cX12_giveBack 73 = .ok (.iload_n 2, 1) := by decide +kernel
theorem dX12_giveBack_74 : decode cX12_giveBack 74 = .ok (.aload_n 0, 1) := by decide +kernel
theorem dX12_giveBack_75 : decode cX12_giveBack 75 = .ok (.getfield 261, 3) := by decide +kernel
theorem dX12_giveBack_78 : decode cX12_giveBack 78 = .ok (.invokevirtual 264, 3) := by decide +kernel
theorem dX12_giveBack_81 : decode cX12_giveBack 81 = .ok (.ifCond .eq 7, 3) := by decide +kernel
theorem dX12_giveBack_84 : decode cX12_giveBack 84 = .ok (.iconst 1, 1) := by decide +kernel
theorem dX12_giveBack_85 : decode cX12_giveBack 85 = .ok (.goto 4, 3) := by decide +kernel
theorem dX12_giveBack_88 : decode cX12_giveBack 88 = .ok (.iconst 0, 1) := by decide +kernel
theorem dX12_giveBack_89 : decode cX12_giveBack 89 = .ok (.ireturn, 1) := by decide +kernel
theorem dX12_lastOf_0 : decode cX12_lastOf 0 = .ok (.iconst (-1), 1) := by decide +kernel
theorem dX12_lastOf_1 : decode cX12_lastOf 1 = .ok (.istore_n 2, 1) := by decide +kernel
theorem dX12_lastOf_2 : decode cX12_lastOf 2 = .ok (.iconst 0, 1) := by decide +kernel
theorem dX12_lastOf_3 : decode cX12_lastOf 3 = .ok (.istore_n 3, 1) := by decide +kernel
theorem dX12_lastOf_4 : decode cX12_lastOf 4 = .ok (.iload_n 3, 1) := by decide +kernel
theorem dX12_lastOf_5 : decode cX12_lastOf 5 = .ok (.aload_n 0, 1) := by decide +kernel
theorem dX12_lastOf_6 : decode cX12_lastOf 6 = .ok (.getfield 258, 3) := by decide +kernel
theorem dX12_lastOf_9 : decode cX12_lastOf 9 = .ok (.if_icmp .ge 59, 3) := by decide +kernel
theorem dX12_lastOf_12 : decode cX12_lastOf 12 = .ok (.aload_n 0, 1) := by decide +kernel
theorem dX12_lastOf_13 : decode cX12_lastOf 13 = .ok (.getfield 102, 3) := by decide +kernel
theorem dX12_lastOf_16 : decode cX12_lastOf 16 = .ok (.iload_n 3, 1) := by decide +kernel
theorem dX12_lastOf_17 : decode cX12_lastOf 17 = .ok (.baload, 1) := by decide +kernel
theorem dX12_lastOf_18 : decode cX12_lastOf 18 = .ok (.ifCond .eq 44, 3) := by decide +kernel
theorem dX12_lastOf_21 : decode cX12_lastOf 21 = .ok (.aload_n 0, 1) := by decide +kernel
theorem dX12_lastOf_22 : decode cX12_lastOf 22 = .ok (.getfield 90, 3) := by decide +kernel
theorem dX12_lastOf_25 : decode cX12_lastOf 25 = .ok (.iload_n 3, 1) := by decide +kernel
theorem dX12_lastOf_26 : decode cX12_lastOf 26 = .ok (.iaload, 1) := by decide +kernel
theorem dX12_lastOf_27 : decode cX12_lastOf 27 = .ok (.iconst 1, 1) := by decide +kernel
theorem dX12_lastOf_28 : decode cX12_lastOf 28 = .ok (.if_icmp .eq 34, 3) := by decide +kernel
theorem dX12_lastOf_31 : decode cX12_lastOf 31 = .ok (.aload_n 0, 1) := by decide +kernel
theorem dX12_lastOf_32 : decode cX12_lastOf 32 = .ok (.getfield 96, 3) := by decide +kernel
theorem dX12_lastOf_35 : decode cX12_lastOf 35 = .ok (.iload_n 3, 1) := by decide +kernel
theorem dX12_lastOf_36 : decode cX12_lastOf 36 = .ok (.iaload, 1) := by decide +kernel
theorem dX12_lastOf_37 : decode cX12_lastOf 37 = .ok (.iload_n 1, 1) := by decide +kernel
theorem dX12_lastOf_38 : decode cX12_lastOf 38 = .ok (.if_icmp .ne 24, 3) := by decide +kernel
theorem dX12_lastOf_41 : decode cX12_lastOf 41 = .ok (.iload_n 2, 1) := by decide +kernel
theorem dX12_lastOf_42 : decode cX12_lastOf 42 = .ok (.ifCond .lt 18, 3) := by decide +kernel
theorem dX12_lastOf_45 : decode cX12_lastOf 45 = .ok (.aload_n 0, 1) := by decide +kernel
theorem dX12_lastOf_46 : decode cX12_lastOf 46 = .ok (.getfield 99, 3) := by decide +kernel
theorem dX12_lastOf_49 : decode cX12_lastOf 49 = .ok (.iload_n 3, 1) := by decide +kernel
theorem dX12_lastOf_50 : decode cX12_lastOf 50 = .ok (.iaload, 1) := by decide +kernel
theorem dX12_lastOf_51 : decode cX12_lastOf 51 = .ok (.aload_n 0, 1) := by decide +kernel
theorem dX12_lastOf_52 : decode cX12_lastOf 52 = .ok (.getfield 99, 3) := by decide +kernel
theorem dX12_lastOf_55 : decode cX12_lastOf 55 = .ok (.iload_n 2, 1) := by decide +kernel
theorem dX12_lastOf_56 : decode cX12_lastOf 56 = .ok (.iaload, 1) := by decide +kernel
theorem dX12_lastOf_57 : decode cX12_lastOf 57 = .ok (.if_icmp .le 5, 3) := by decide +kernel
theorem dX12_lastOf_60 : decode cX12_lastOf 60 = .ok (.iload_n 3, 1) := by decide +kernel
theorem dX12_lastOf_61 : decode cX12_lastOf 61 = .ok (.istore_n 2, 1) := by decide +kernel
theorem dX12_lastOf_62 : decode cX12_lastOf 62 = .ok (.iinc 3 1, 3) := by decide +kernel
theorem dX12_lastOf_65 : decode cX12_lastOf 65 = .ok (.goto (-61), 3) := by decide +kernel
theorem dX12_lastOf_68 : decode cX12_lastOf 68 = .ok (.iload_n 2, 1) := by decide +kernel
theorem dX12_lastOf_69 : decode cX12_lastOf 69 = .ok (.ireturn, 1) := by decide +kernel
theorem dX12_spend_0 : decode cX12_spend 0 = .ok (.aload_n 0, 1) := by decide +kernel
theorem dX12_spend_1 : decode cX12_spend 1 = .ok (.iconst 2, 1) := by decide +kernel
theorem dX12_spend_2 : decode cX12_spend 2 = .ok (.putfield 267, 3) := by decide +kernel
theorem dX12_spend_5 : decode cX12_spend 5 = .ok (.aload_n 0, 1) := by decide +kernel
theorem dX12_spend_6 : decode cX12_spend 6 = .ok (.iconst 1, 1) := by decide +kernel
theorem dX12_spend_7 : decode cX12_spend 7 = .ok (.putfield 270, 3) := by decide +kernel
theorem dX12_spend_10 : decode cX12_spend 10 = .ok (.aload_n 0, 1) := by decide +kernel
theorem dX12_spend_11 : decode cX12_spend 11 = .ok (.getfield 217, 3) := by decide +kernel
theorem dX12_spend_14 : decode cX12_spend 14 = .ok (.iconst 1, 1) := by decide +kernel
theorem dX12_spend_15 : decode cX12_spend 15 = .ok (.isub, 1) := by decide +kernel
theorem dX12_spend_16 : decode cX12_spend 16 = .ok (.istore_n 1, 1) := by decide +kernel
theorem dX12_spend_17 : decode cX12_spend 17 = .ok (.iload_n 1, 1) := by decide +kernel
theorem dX12_spend_18 : decode cX12_spend 18 = .ok (.ifCond .lt 56, 3) := by decide +kernel
theorem dX12_spend_21 : decode cX12_spend 21 = .ok (.aload_n 0, 1) := by decide +kernel
theorem dX12_spend_22 : decode cX12_spend 22 = .ok (.getfield 66, 3) := by decide +kernel
theorem dX12_spend_25 : decode cX12_spend 25 = .ok (.iload_n 1, 1) := by decide +kernel
theorem dX12_spend_26 : decode cX12_spend 26 = .ok (.iaload, 1) := by decide +kernel
theorem dX12_spend_27 : decode cX12_spend 27 = .ok (.bipush 12, 2) := by decide +kernel
theorem dX12_spend_29 : decode cX12_spend 29 = .ok (.if_icmp .ne 39, 3) := by decide +kernel
theorem dX12_spend_32 : decode cX12_spend 32 = .ok (.aload_n 0, 1) := by decide +kernel
theorem dX12_spend_33 : decode cX12_spend 33 = .ok (.aload_n 0, 1) := by decide +kernel
theorem dX12_spend_34 : decode cX12_spend 34 = .ok (.getfield 72, 3) := by decide +kernel
theorem dX12_spend_37 : decode cX12_spend 37 = .ok (.iload_n 1, 1) := by decide +kernel
theorem dX12_spend_38 : decode cX12_spend 38 = .ok (.iaload, 1) := by decide +kernel
theorem dX12_spend_39 : decode cX12_spend 39 = .ok (.invokevirtual 274, 3) := by decide +kernel
theorem dX12_spend_42 : decode cX12_spend 42 = .ok (.istore_n 2, 1) := by decide +kernel
theorem dX12_spend_43 : decode cX12_spend 43 = .ok (.iload_n 2, 1) := by decide +kernel
theorem dX12_spend_44 : decode cX12_spend 44 = .ok (.ifCond .lt 24, 3) := by decide +kernel
theorem dX12_spend_47 : decode cX12_spend 47 = .ok (.aload_n 0, 1) := by decide +kernel
theorem dX12_spend_48 : decode cX12_spend 48 = .ok (.iload_n 2, 1) := by decide +kernel
theorem dX12_spend_49 : decode cX12_spend 49 = .ok (.iconst 2, 1) := by decide +kernel
theorem dX12_spend_50 : decode cX12_spend 50 = .ok (.invokevirtual 278, 3) := by decide +kernel
theorem dX12_spend_53 : decode cX12_spend 53 = .ok (.istore_n 3, 1) := by decide +kernel
theorem dX12_spend_54 : decode cX12_spend 54 = .ok (.aload_n 0, 1) := by decide +kernel
theorem dX12_spend_55 : decode cX12_spend 55 = .ok (.aload_n 0, 1) := by decide +kernel
theorem dX12_spend_56 : decode cX12_spend 56 = .ok (.getfield 72, 3) := by decide +kernel
theorem dX12_spend_59 : decode cX12_spend 59 = .ok (.iload_n 1, 1) := by decide +kernel
theorem dX12_spend_60 : decode cX12_spend 60 = .ok (.iaload, 1) := by decide +kernel
theorem dX12_spend_61 : decode cX12_spend 61 = .ok (.invokevirtual 274, 3) := by decide +kernel
theorem dX12_spend_64 : decode cX12_spend 64 = .ok (.istore_n 2, 1) := by decide +kernel
theorem dX12_spend_65 : decode cX12_spend 65 = .ok (.goto (-22), 3) := by decide +kernel
theorem dX12_spend_68 : decode cX12_spend 68 = .ok (.iinc 1 (-1), 3) := by decide +kernel
theorem dX12_spend_71 : decode cX12_spend 71 = .ok (.goto (-54), 3) := by decide +kernel
theorem dX12_spend_74 : decode cX12_spend 74 = .ok (.aload_n 0, 1) := by decide +kernel
theorem dX12_spend_75 : decode cX12_spend 75 = .ok (.iconst 0, 1) := by decide +kernel
theorem dX12_spend_76 : decode cX12_spend 76 = .ok (.putfield 217, 3) := by decide +kernel
theorem dX12_spend_79 : decode cX12_spend 79 = .ok (.return_, 1) := by decide +kernel
theorem dX12_endScope_0 : decode cX12_endScope 0 = .ok (.aload_n 0, 1) := by decide +kernel
theorem dX12_endScope_1 : decode cX12_endScope 1 = .ok (.getfield 72, 3) := by decide +kernel
theorem dX12_endScope_4 : decode cX12_endScope 4 = .ok (.aload_n 0, 1) := by decide +kernel
theorem dX12_endScope_5 : decode cX12_endScope 5 = .ok (.getfield 217, 3) := by decide +kernel
theorem dX12_endScope_8 : decode cX12_endScope 8 = .ok (.iconst 1, 1) := by decide +kernel
theorem dX12_endScope_9 : decode cX12_endScope 9 = .ok (.isub, 1) := by decide +kernel
theorem dX12_endScope_10 : decode cX12_endScope 10 = .ok (.iaload, 1) := by decide +kernel
theorem dX12_endScope_11 : decode cX12_endScope 11 = .ok (.istore_n 1, 1) := by decide +kernel
theorem dX12_endScope_12 : decode cX12_endScope 12 = .ok (.aload_n 0, 1) := by decide +kernel
theorem dX12_endScope_13 : decode cX12_endScope 13 = .ok (.dup, 1) := by decide +kernel
theorem dX12_endScope_14 : decode cX12_endScope 14 = .ok (.getfield 281, 3) := by decide +kernel
theorem dX12_endScope_17 : decode cX12_endScope 17 = .ok (.iconst 1, 1) := by decide +kernel
theorem dX12_endScope_18 : decode cX12_endScope 18 = .ok (.iadd, 1) := by decide +kernel
theorem dX12_endScope_19 : decode cX12_endScope 19 = .ok (.putfield 281, 3) := by decide +kernel
theorem dX12_endScope_22 : decode cX12_endScope 22 = .ok (.aload_n 0, 1) := by decide +kernel
theorem dX12_endScope_23 : decode cX12_endScope 23 = .ok (.iload_n 1, 1) := by decide +kernel
theorem dX12_endScope_24 : decode cX12_endScope 24 = .ok (.invokevirtual 274, 3) := by decide +kernel
theorem dX12_endScope_27 : decode cX12_endScope 27 = .ok (.istore_n 2, 1) := by decide +kernel
theorem dX12_endScope_28 : decode cX12_endScope 28 = .ok (.iload_n 2, 1) := by decide +kernel
theorem dX12_endScope_29 : decode cX12_endScope 29 = .ok (.ifCond .lt 110, 3) := by decide +kernel
theorem dX12_endScope_32 : decode cX12_endScope 32 = .ok (.aload_n 0, 1) := by decide +kernel
theorem dX12_endScope_33 : decode cX12_endScope 33 = .ok (.getfield 270, 3) := by decide +kernel
theorem dX12_endScope_36 : decode cX12_endScope 36 = .ok (.ifCond .ne 103, 3) := by decide +kernel
theorem dX12_endScope_39 : decode cX12_endScope 39 = .ok (.aload_n 0, 1) := by decide +kernel
theorem dX12_endScope_40 : decode cX12_endScope 40 = .ok (.iload_n 2, 1) := by decide +kernel
theorem dX12_endScope_41 : decode cX12_endScope 41 = .ok (.iconst 1, 1) := by decide +kernel
theorem dX12_endScope_42 : decode cX12_endScope 42 = .ok (.invokevirtual 278, 3) := by decide +kernel
theorem dX12_endScope_45 : decode cX12_endScope 45 = .ok (.ifCond .eq 74, 3) := by decide +kernel
theorem dX12_endScope_48 : decode cX12_endScope 48 = .ok (.aload_n 0, 1) := by decide +kernel
theorem dX12_endScope_49 : decode cX12_endScope 49 = .ok (.getfield 245, 3) := by decide +kernel
theorem dX12_endScope_52 : decode cX12_endScope 52 = .ok (.bipush 16, 2) := by decide +kernel
theorem dX12_endScope_54 : decode cX12_endScope 54 = .ok (.if_icmp .ne 10, 3) := by decide +kernel
theorem dX12_endScope_57 : decode cX12_endScope 57 = .ok (.aload_n 0, 1) := by decide +kernel
theorem dX12_endScope_58 : decode cX12_endScope 58 = .ok (.invokevirtual 242, 3) := by decide +kernel
theorem dX12_endScope_61 : decode cX12_endScope 61 = .ok (.goto 58, 3) := by decide +kernel
theorem dX12_endScope_64 : decode cX12_endScope 64 = .ok (.aload_n 0, 1) := by decide +kernel
theorem dX12_endScope_65 : decode cX12_endScope 65 = .ok (.bipush 6, 2) := by decide +kernel
theorem dX12_endScope_67 : decode cX12_endScope 67 = .ok (.aload_n 0, 1) := by decide +kernel
theorem dX12_endScope_68 : decode cX12_endScope 68 = .ok (.getfield 69, 3) := by decide +kernel
theorem dX12_endScope_71 : decode cX12_endScope 71 = .ok (.aload_n 0, 1) := by decide +kernel
theorem dX12_endScope_72 : decode cX12_endScope 72 = .ok (.getfield 217, 3) := by decide +kernel
theorem dX12_endScope_75 : decode cX12_endScope 75 = .ok (.iconst 1, 1) := by decide +kernel
theorem dX12_endScope_76 : decode cX12_endScope 76 = .ok (.isub, 1) := by decide +kernel
theorem dX12_endScope_77 : decode cX12_endScope 77 = .ok (.iaload, 1) := by decide +kernel
theorem dX12_endScope_78 : decode cX12_endScope 78 = .ok (.aload_n 0, 1) := by decide +kernel
theorem dX12_endScope_79 : decode cX12_endScope 79 = .ok (.getfield 87, 3) := by decide +kernel
theorem dX12_endScope_82 : decode cX12_endScope 82 = .ok (.iload_n 2, 1) := by decide +kernel
theorem dX12_endScope_83 : decode cX12_endScope 83 = .ok (.iaload, 1) := by decide +kernel
theorem dX12_endScope_84 : decode cX12_endScope 84 = .ok (.invokevirtual 248, 3) := by decide +kernel
theorem dX12_endScope_87 : decode cX12_endScope 87 = .ok (.istore_n 3, 1) := by decide +kernel
theorem dX12_endScope_88 : decode cX12_endScope 88 = .ok (.aload_n 0, 1) := by decide +kernel
theorem dX12_endScope_89 : decode cX12_endScope 89 = .ok (.getfield 255, 3) := by decide +kernel
theorem dX12_endScope_92 : decode cX12_endScope 92 = .ok (.iconst 3, 1) := by decide +kernel
theorem dX12_endScope_93 : decode cX12_endScope 93 = .ok (.if_icmp .ne 16, 3) := by decide +kernel
theorem dX12_endScope_96 : decode cX12_endScope 96 = .ok (.aload_n 0, 1) := by decide +kernel
theorem dX12_endScope_97 : decode cX12_endScope 97 = .ok (.getfield 126, 3) := by decide +kernel
theorem dX12_endScope_100 : decode cX12_endScope 100 = .ok (.iload_n 3, 1) := by decide +kernel
theorem dX12_endScope_101 : decode cX12_endScope 101 = .ok (.aload_n 0, 1) := by decide +kernel
theorem dX12_endScope_102 : decode cX12_endScope 102 = .ok (.getfield 252, 3) := by decide +kernel
theorem dX12_endScope_105 : decode cX12_endScope 105 = .ok (.iastore, 1) := by decide +kernel
theorem dX12_endScope_106 : decode cX12_endScope 106 = .ok (.goto 13, 3) := by decide +kernel
theorem dX12_endScope_109 : decode cX12_endScope 109 = .ok (.aload_n 0, 1) := by decide +kernel
theorem dX12_endScope_110 : decode cX12_endScope 110 = .ok (.iconst 3, 1) := by decide +kernel
theorem dX12_endScope_111 : decode cX12_endScope 111 = .ok (.putfield 255, 3) := by decide +kernel
theorem dX12_endScope_114 : decode cX12_endScope 114 = .ok (.aload_n 0, 1) := by decide +kernel
theorem dX12_endScope_115 : decode cX12_endScope 115 = .ok (.iload_n 3, 1) := by decide +kernel
theorem dX12_endScope_116 : decode cX12_endScope 116 = .ok (.putfield 252, 3) := by decide +kernel
theorem dX12_endScope_119 : decode cX12_endScope 119 = .ok (.aload_n 0, 1) := by decide +kernel
theorem dX12_endScope_120 : decode cX12_endScope 120 = .ok (.getfield 270, 3) := by decide +kernel
theorem dX12_endScope_123 : decode cX12_endScope 123 = .ok (.ifCond .eq 7, 3) := by decide +kernel
theorem dX12_endScope_126 : decode cX12_endScope 126 = .ok (.iconst (-1), 1) := by decide +kernel
theorem dX12_endScope_127 : decode cX12_endScope 127 = .ok (.goto 8, 3) := by decide +kernel
theorem dX12_endScope_130 : decode cX12_endScope 130 = .ok (.aload_n 0, 1) := by decide +kernel
theorem dX12_endScope_131 : decode cX12_endScope 131 = .ok (.iload_n 1, 1) := by decide +kernel
theorem dX12_endScope_132 : decode cX12_endScope 132 = .ok (.invokevirtual 274, 3) := by decide +kernel
theorem dX12_endScope_135 : decode cX12_endScope 135 = .ok (.istore_n 2, 1) := by decide +kernel
theorem dX12_endScope_136 : decode cX12_endScope 136 = .ok (.goto (-108), 3) := by decide +kernel
theorem dX12_endScope_139 : decode cX12_endScope 139 = .ok (.aload_n 0, 1) := by decide +kernel
theorem dX12_endScope_140 : decode cX12_endScope 140 = .ok (.getfield 270, 3) := by decide +kernel
theorem dX12_endScope_143 : decode cX12_endScope 143 = .ok (.ifCond .ne 13, 3) := by decide +kernel
theorem dX12_endScope_146 : decode cX12_endScope 146 = .ok (.aload_n 0, 1) := by decide +kernel
theorem dX12_endScope_147 : decode cX12_endScope 147 = .ok (.dup, 1) := by decide +kernel
theorem dX12_endScope_148 : decode cX12_endScope 148 = .ok (.getfield 217, 3) := by decide +kernel
theorem dX12_endScope_151 : decode cX12_endScope 151 = .ok (.iconst 1, 1) := by decide +kernel
theorem dX12_endScope_152 : decode cX12_endScope 152 = .ok (.isub, 1) := by decide +kernel
theorem dX12_endScope_153 : decode cX12_endScope 153 = .ok (.putfield 217, 3) := by decide +kernel
theorem dX12_endScope_156 : decode cX12_endScope 156 = .ok (.return_, 1) := by decide +kernel
theorem dX12_above_0 : decode cX12_above 0 = .ok (.iload_n 0, 1) := by decide +kernel
theorem dX12_above_1 : decode cX12_above 1 = .ok (.tableswitch 72 0 11 #[70, 72, 63, 63, 63, 72, 65, 72, 72, 72, 67, 65], 63) := by decide +kernel
theorem dX12_above_64 : decode cX12_above 64 = .ok (.iconst 1, 1) := by decide +kernel
theorem dX12_above_65 : decode cX12_above 65 = .ok (.ireturn, 1) := by decide +kernel
theorem dX12_above_66 : decode cX12_above 66 = .ok (.iconst 5, 1) := by decide +kernel
theorem dX12_above_67 : decode cX12_above 67 = .ok (.ireturn, 1) := by decide +kernel
theorem dX12_above_68 : decode cX12_above 68 = .ok (.bipush 9, 2) := by decide +kernel
theorem dX12_above_70 : decode cX12_above 70 = .ok (.ireturn, 1) := by decide +kernel
theorem dX12_above_71 : decode cX12_above 71 = .ok (.iconst (-1), 1) := by decide +kernel
theorem dX12_above_72 : decode cX12_above 72 = .ok (.ireturn, 1) := by decide +kernel
theorem dX12_above_73 : decode cX12_above 73 = .ok (.iconst 0, 1) := by decide +kernel
theorem dX12_above_74 : decode cX12_above 74 = .ok (.ireturn, 1) := by decide +kernel
theorem dX12_isUnder_0 : decode cX12_isUnder 0 = .ok (.iload_n 0, 1) := by decide +kernel
theorem dX12_isUnder_1 : decode cX12_isUnder 1 = .ok (.istore_n 2, 1) := by decide +kernel
theorem dX12_isUnder_2 : decode cX12_isUnder 2 = .ok (.iload_n 2, 1) := by decide +kernel
theorem dX12_isUnder_3 : decode cX12_isUnder 3 = .ok (.ifCond .lt 16, 3) := by decide +kernel
theorem dX12_isUnder_6 : decode cX12_isUnder 6 = .ok (.iload_n 2, 1) := by decide +kernel
theorem dX12_isUnder_7 : decode cX12_isUnder 7 = .ok (.iload_n 1, 1) := by decide +kernel
theorem dX12_isUnder_8 : decode cX12_isUnder 8 = .ok (.if_icmp .eq 11, 3) := by decide +kernel
theorem dX12_isUnder_11 : decode cX12_isUnder 11 = .ok (.iload_n 2, 1) := by decide +kernel
theorem dX12_isUnder_12 : decode cX12_isUnder 12 = .ok (.invokestatic 284, 3) := by decide +kernel
theorem dX12_isUnder_15 : decode cX12_isUnder 15 = .ok (.istore_n 2, 1) := by decide +kernel
theorem dX12_isUnder_16 : decode cX12_isUnder 16 = .ok (.goto (-14), 3) := by decide +kernel
theorem dX12_isUnder_19 : decode cX12_isUnder 19 = .ok (.iload_n 2, 1) := by decide +kernel
theorem dX12_isUnder_20 : decode cX12_isUnder 20 = .ok (.iload_n 1, 1) := by decide +kernel
theorem dX12_isUnder_21 : decode cX12_isUnder 21 = .ok (.if_icmp .ne 7, 3) := by decide +kernel
theorem dX12_isUnder_24 : decode cX12_isUnder 24 = .ok (.iconst 1, 1) := by decide +kernel
theorem dX12_isUnder_25 : decode cX12_isUnder 25 = .ok (.goto 4, 3) := by decide +kernel
theorem dX12_isUnder_28 : decode cX12_isUnder 28 = .ok (.iconst 0, 1) := by decide +kernel
theorem dX12_isUnder_29 : decode cX12_isUnder 29 = .ok (.ireturn, 1) := by decide +kernel
theorem dX12_guardOf_0 : decode cX12_guardOf 0 = .ok (.aload_n 0, 1) := by decide +kernel
theorem dX12_guardOf_1 : decode cX12_guardOf 1 = .ok (.iload_n 1, 1) := by decide +kernel
theorem dX12_guardOf_2 : decode cX12_guardOf 2 = .ok (.iload_n 2, 1) := by decide +kernel
theorem dX12_guardOf_3 : decode cX12_guardOf 3 = .ok (.invokevirtual 213, 3) := by decide +kernel
theorem dX12_guardOf_6 : decode cX12_guardOf 6 = .ok (.istore_n 3, 1) := by decide +kernel
theorem dX12_guardOf_7 : decode cX12_guardOf 7 = .ok (.aload_n 0, 1) := by decide +kernel
theorem dX12_guardOf_8 : decode cX12_guardOf 8 = .ok (.getfield 50, 3) := by decide +kernel
theorem dX12_guardOf_11 : decode cX12_guardOf 11 = .ok (.bipush 40, 2) := by decide +kernel
theorem dX12_guardOf_13 : decode cX12_guardOf 13 = .ok (.iload_n 1, 1) := by decide +kernel
theorem dX12_guardOf_14 : decode cX12_guardOf 14 = .ok (.imul, 1) := by decide +kernel
theorem dX12_guardOf_15 : decode cX12_guardOf 15 = .ok (.iload_n 3, 1) := by decide +kernel
theorem dX12_guardOf_16 : decode cX12_guardOf 16 = .ok (.iadd, 1) := by decide +kernel
theorem dX12_guardOf_17 : decode cX12_guardOf 17 = .ok (.iaload, 1) := by decide +kernel
theorem dX12_guardOf_18 : decode cX12_guardOf 18 = .ok (.bipush 14, 2) := by decide +kernel
theorem dX12_guardOf_20 : decode cX12_guardOf 20 = .ok (.if_icmp .ne 39, 3) := by decide +kernel
theorem dX12_guardOf_23 : decode cX12_guardOf 23 = .ok (.aload_n 0, 1) := by decide +kernel
theorem dX12_guardOf_24 : decode cX12_guardOf 24 = .ok (.getfield 111, 3) := by decide +kernel
theorem dX12_guardOf_27 : decode cX12_guardOf 27 = .ok (.aload_n 0, 1) := by decide +kernel
theorem dX12_guardOf_28 : decode cX12_guardOf 28 = .ok (.getfield 252, 3) := by decide +kernel
theorem dX12_guardOf_31 : decode cX12_guardOf 31 = .ok (.iaload, 1) := by decide +kernel
theorem dX12_guardOf_32 : decode cX12_guardOf 32 = .ok (.aload_n 0, 1) := by decide +kernel
theorem dX12_guardOf_33 : decode cX12_guardOf 33 = .ok (.getfield 53, 3) := by decide +kernel
theorem dX12_guardOf_36 : decode cX12_guardOf 36 = .ok (.bipush 40, 2) := by decide +kernel
theorem dX12_guardOf_38 : decode cX12_guardOf 38 = .ok (.iload_n 1, 1) := by decide +kernel
theorem dX12_guardOf_39 : decode cX12_guardOf 39 = .ok (.imul, 1) := by decide +kernel
theorem dX12_guardOf_40 : decode cX12_guardOf 40 = .ok (.iload_n 3, 1) := by decide +kernel
theorem dX12_guardOf_41 : decode cX12_guardOf 41 = .ok (.iadd, 1) := by decide +kernel
theorem dX12_guardOf_42 : decode cX12_guardOf 42 = .ok (.iaload, 1) := by decide +kernel
theorem dX12_guardOf_43 : decode cX12_guardOf 43 = .ok (.invokestatic 287, 3) := by decide +kernel
theorem dX12_guardOf_46 : decode cX12_guardOf 46 = .ok (.ifCond .ne 13, 3) := by decide +kernel
theorem dX12_guardOf_49 : decode cX12_guardOf 49 = .ok (.aload_n 0, 1) := by decide +kernel
theorem dX12_guardOf_50 : decode cX12_guardOf 50 = .ok (.iload_n 1, 1) := by decide +kernel
theorem dX12_guardOf_51 : decode cX12_guardOf 51 = .ok (.iload_n 3, 1) := by decide +kernel
theorem dX12_guardOf_52 : decode cX12_guardOf 52 = .ok (.invokevirtual 213, 3) := by decide +kernel
theorem dX12_guardOf_55 : decode cX12_guardOf 55 = .ok (.istore_n 3, 1) := by decide +kernel
theorem dX12_guardOf_56 : decode cX12_guardOf 56 = .ok (.goto (-49), 3) := by decide +kernel
theorem dX12_guardOf_59 : decode cX12_guardOf 59 = .ok (.aload_n 0, 1) := by decide +kernel
theorem dX12_guardOf_60 : decode cX12_guardOf 60 = .ok (.getfield 50, 3) := by decide +kernel
theorem dX12_guardOf_63 : decode cX12_guardOf 63 = .ok (.bipush 40, 2) := by decide +kernel
theorem dX12_guardOf_65 : decode cX12_guardOf 65 = .ok (.iload_n 1, 1) := by decide +kernel
theorem dX12_guardOf_66 : decode cX12_guardOf 66 = .ok (.imul, 1) := by decide +kernel
theorem dX12_guardOf_67 : decode cX12_guardOf 67 = .ok (.iload_n 3, 1) := by decide +kernel
theorem dX12_guardOf_68 : decode cX12_guardOf 68 = .ok (.iadd, 1) := by decide +kernel
theorem dX12_guardOf_69 : decode cX12_guardOf 69 = .ok (.iaload, 1) := by decide +kernel
theorem dX12_guardOf_70 : decode cX12_guardOf 70 = .ok (.bipush 14, 2) := by decide +kernel
theorem dX12_guardOf_72 : decode cX12_guardOf 72 = .ok (.if_icmp .ne 7, 3) := by decide +kernel
theorem dX12_guardOf_75 : decode cX12_guardOf 75 = .ok (.iload_n 3, 1) := by decide +kernel
theorem dX12_guardOf_76 : decode cX12_guardOf 76 = .ok (.goto 4, 3) := by decide +kernel
theorem dX12_guardOf_79 : decode cX12_guardOf 79 = .ok (.iconst (-1), 1) := by decide +kernel
theorem dX12_guardOf_80 : decode cX12_guardOf 80 = .ok (.ireturn, 1) := by decide +kernel
theorem dX12_goTo_0 : decode cX12_goTo 0 = .ok (.aload_n 0, 1) := by decide +kernel
theorem dX12_goTo_1 : decode cX12_goTo 1 = .ok (.getfield 78, 3) := by decide +kernel
theorem dX12_goTo_4 : decode cX12_goTo 4 = .ok (.aload_n 0, 1) := by decide +kernel
theorem dX12_goTo_5 : decode cX12_goTo 5 = .ok (.getfield 220, 3) := by decide +kernel
theorem dX12_goTo_8 : decode cX12_goTo 8 = .ok (.iload_n 1, 1) := by decide +kernel
theorem dX12_goTo_9 : decode cX12_goTo 9 = .ok (.iastore, 1) := by decide +kernel
theorem dX12_goTo_10 : decode cX12_goTo 10 = .ok (.return_, 1) := by decide +kernel
theorem dX12_leaveTry_0 : decode cX12_leaveTry 0 = .ok (.aload_n 0, 1) := by decide +kernel
theorem dX12_leaveTry_1 : decode cX12_leaveTry 1 = .ok (.getfield 217, 3) := by decide +kernel
theorem dX12_leaveTry_4 : decode cX12_leaveTry 4 = .ok (.iconst 1, 1) := by decide +kernel
theorem dX12_leaveTry_5 : decode cX12_leaveTry 5 = .ok (.isub, 1) := by decide +kernel
theorem dX12_leaveTry_6 : decode cX12_leaveTry 6 = .ok (.istore_n 1, 1) := by decide +kernel
theorem dX12_leaveTry_7 : decode cX12_leaveTry 7 = .ok (.aload_n 0, 1) := by decide +kernel
theorem dX12_leaveTry_8 : decode cX12_leaveTry 8 = .ok (.getfield 72, 3) := by decide +kernel
theorem dX12_leaveTry_11 : decode cX12_leaveTry 11 = .ok (.aload_n 0, 1) := by decide +kernel
theorem dX12_leaveTry_12 : decode cX12_leaveTry 12 = .ok (.getfield 220, 3) := by decide +kernel
theorem dX12_leaveTry_15 : decode cX12_leaveTry 15 = .ok (.iaload, 1) := by decide +kernel
theorem dX12_leaveTry_16 : decode cX12_leaveTry 16 = .ok (.istore_n 2, 1) := by decide +kernel
theorem dX12_leaveTry_17 : decode cX12_leaveTry 17 = .ok (.aload_n 0, 1) := by decide +kernel
theorem dX12_leaveTry_18 : decode cX12_leaveTry 18 = .ok (.iload_n 2, 1) := by decide +kernel
theorem dX12_leaveTry_19 : decode cX12_leaveTry 19 = .ok (.aload_n 0, 1) := by decide +kernel
theorem dX12_leaveTry_20 : decode cX12_leaveTry 20 = .ok (.getfield 69, 3) := by decide +kernel
theorem dX12_leaveTry_23 : decode cX12_leaveTry 23 = .ok (.iload_n 1, 1) := by decide +kernel
theorem dX12_leaveTry_24 : decode cX12_leaveTry 24 = .ok (.iaload, 1) := by decide +kernel
theorem dX12_leaveTry_25 : decode cX12_leaveTry 25 = .ok (.invokevirtual 290, 3) := by decide +kernel
theorem dX12_leaveTry_28 : decode cX12_leaveTry 28 = .ok (.istore_n 3, 1) := by decide +kernel
theorem dX12_leaveTry_29 : decode cX12_leaveTry 29 = .ok (.aload_n 0, 1) := by decide +kernel
theorem dX12_leaveTry_30 : decode cX12_leaveTry 30 = .ok (.getfield 72, 3) := by decide +kernel
theorem dX12_leaveTry_33 : decode cX12_leaveTry 33 = .ok (.iload_n 1, 1) := by decide +kernel
theorem dX12_leaveTry_34 : decode cX12_leaveTry 34 = .ok (.iaload, 1) := by decide +kernel
theorem dX12_leaveTry_35 : decode cX12_leaveTry 35 = .ok (.iconst 2, 1) := by decide +kernel
theorem dX12_leaveTry_36 : decode cX12_leaveTry 36 = .ok (.if_icmp .ge 64, 3) := by decide +kernel
theorem dX12_leaveTry_39 : decode cX12_leaveTry 39 = .ok (.iload_n 3, 1) := by decide +kernel
theorem dX12_leaveTry_40 : decode cX12_leaveTry 40 = .ok (.ifCond .lt 60, 3) := by decide +kernel
theorem dX12_leaveTry_43 : decode cX12_leaveTry 43 = .ok (.aload_n 0, 1) := by decide +kernel
theorem dX12_leaveTry_44 : decode cX12_leaveTry 44 = .ok (.getfield 75, 3) := by decide +kernel
theorem dX12_leaveTry_47 : decode cX12_leaveTry 47 = .ok (.iload_n 1, 1) := by decide +kernel
theorem dX12_leaveTry_48 : decode cX12_leaveTry 48 = .ok (.aload_n 0, 1) := by decide +kernel
theorem dX12_leaveTry_49 : decode cX12_leaveTry 49 = .ok (.getfield 255, 3) := by decide +kernel
theorem dX12_leaveTry_52 : decode cX12_leaveTry 52 = .ok (.iastore, 1) := by decide +kernel
theorem dX12_leaveTry_53 : decode cX12_leaveTry 53 = .ok (.aload_n 0, 1) := by decide +kernel
theorem dX12_leaveTry_54 : decode cX12_leaveTry 54 = .ok (.getfield 81, 3) := by decide +kernel
theorem dX12_leaveTry_57 : decode cX12_leaveTry 57 = .ok (.iload_n 1, 1) := by decide +kernel
theorem dX12_leaveTry_58 : decode cX12_leaveTry 58 = .ok (.aload_n 0, 1) := by decide +kernel
theorem dX12_leaveTry_59 : decode cX12_leaveTry 59 = .ok (.getfield 252, 3) := by decide +kernel
theorem dX12_leaveTry_62 : decode cX12_leaveTry 62 = .ok (.iastore, 1) := by decide +kernel
theorem dX12_leaveTry_63 : decode cX12_leaveTry 63 = .ok (.aload_n 0, 1) := by decide +kernel
theorem dX12_leaveTry_64 : decode cX12_leaveTry 64 = .ok (.getfield 72, 3) := by decide +kernel
theorem dX12_leaveTry_67 : decode cX12_leaveTry 67 = .ok (.iload_n 1, 1) := by decide +kernel
theorem dX12_leaveTry_68 : decode cX12_leaveTry 68 = .ok (.iconst 2, 1) := by decide +kernel
theorem dX12_leaveTry_69 : decode cX12_leaveTry 69 = .ok (.iastore, 1) := by decide +kernel
theorem dX12_leaveTry_70 : decode cX12_leaveTry 70 = .ok (.aload_n 0, 1) := by decide +kernel
theorem dX12_leaveTry_71 : decode cX12_leaveTry 71 = .ok (.iconst 0, 1) := by decide +kernel
theorem dX12_leaveTry_72 : decode cX12_leaveTry 72 = .ok (.putfield 255, 3) := by decide +kernel
theorem dX12_leaveTry_75 : decode cX12_leaveTry 75 = .ok (.aload_n 0, 1) := by decide +kernel
theorem dX12_leaveTry_76 : decode cX12_leaveTry 76 = .ok (.invokevirtual 293, 3) := by decide +kernel
theorem dX12_leaveTry_79 : decode cX12_leaveTry 79 = .ok (.ifCond .eq 20, 3) := by decide +kernel
theorem dX12_leaveTry_82 : decode cX12_leaveTry 82 = .ok (.aload_n 0, 1) := by decide +kernel
theorem dX12_leaveTry_83 : decode cX12_leaveTry 83 = .ok (.getfield 81, 3) := by decide +kernel
theorem dX12_leaveTry_86 : decode cX12_leaveTry 86 = .ok (.aload_n 0, 1) := by decide +kernel
theorem dX12_leaveTry_87 : decode cX12_leaveTry 87 = .ok (.getfield 220, 3) := by decide +kernel
theorem dX12_leaveTry_90 : decode cX12_leaveTry 90 = .ok (.iload_n 3, 1) := by decide +kernel
theorem dX12_leaveTry_91 : decode cX12_leaveTry 91 = .ok (.iastore, 1) := by decide +kernel
theorem dX12_leaveTry_92 : decode cX12_leaveTry 92 = .ok (.aload_n 0, 1) := by decide +kernel
theorem dX12_leaveTry_93 : decode cX12_leaveTry 93 = .ok (.iload_n 3, 1) := by decide +kernel
theorem dX12_leaveTry_94 : decode cX12_leaveTry 94 = .ok (.iconst 1, 1) := by decide +kernel
theorem dX12_leaveTry_95 : decode cX12_leaveTry 95 = .ok (.iadd, 1) := by decide +kernel
theorem dX12_leaveTry_96 : decode cX12_leaveTry 96 = .ok (.invokevirtual 230, 3) := by decide +kernel
theorem dX12_leaveTry_99 : decode cX12_leaveTry 99 = .ok (.return_, 1) := by decide +kernel
theorem dX12_leaveTry_100 : decode cX12_leaveTry 100 = .ok (.aload_n 0, 1) := by decide +kernel
theorem dX12_leaveTry_101 : decode cX12_leaveTry 101 = .ok (.dup, 1) := by decide +kernel
theorem dX12_leaveTry_102 : decode cX12_leaveTry 102 = .ok (.getfield 217, 3) := by decide +kernel
theorem dX12_leaveTry_105 : decode cX12_leaveTry 105 = .ok (.iconst 1, 1) := by decide +kernel
theorem dX12_leaveTry_106 : decode cX12_leaveTry 106 = .ok (.isub, 1) := by decide +kernel
theorem dX12_leaveTry_107 : decode cX12_leaveTry 107 = .ok (.putfield 217, 3) := by decide +kernel
theorem dX12_leaveTry_110 : decode cX12_leaveTry 110 = .ok (.aload_n 0, 1) := by decide +kernel
theorem dX12_leaveTry_111 : decode cX12_leaveTry 111 = .ok (.getfield 255, 3) := by decide +kernel
theorem dX12_leaveTry_114 : decode cX12_leaveTry 114 = .ok (.ifCond .ne 20, 3) := by decide +kernel
theorem dX12_leaveTry_117 : decode cX12_leaveTry 117 = .ok (.aload_n 0, 1) := by decide +kernel
theorem dX12_leaveTry_118 : decode cX12_leaveTry 118 = .ok (.aload_n 0, 1) := by decide +kernel
theorem dX12_leaveTry_119 : decode cX12_leaveTry 119 = .ok (.iload_n 2, 1) := by decide +kernel
theorem dX12_leaveTry_120 : decode cX12_leaveTry 120 = .ok (.aload_n 0, 1) := by decide +kernel
theorem dX12_leaveTry_121 : decode cX12_leaveTry 121 = .ok (.getfield 69, 3) := by decide +kernel
theorem dX12_leaveTry_124 : decode cX12_leaveTry 124 = .ok (.iload_n 1, 1) := by decide +kernel
theorem dX12_leaveTry_125 : decode cX12_leaveTry 125 = .ok (.iaload, 1) := by decide +kernel
theorem dX12_leaveTry_126 : decode cX12_leaveTry 126 = .ok (.invokevirtual 297, 3) := by decide +kernel
theorem dX12_leaveTry_129 : decode cX12_leaveTry 129 = .ok (.iconst 1, 1) := by decide +kernel
theorem dX12_leaveTry_130 : decode cX12_leaveTry 130 = .ok (.iadd, 1) := by decide +kernel
theorem dX12_leaveTry_131 : decode cX12_leaveTry 131 = .ok (.invokevirtual 230, 3) := by decide +kernel
theorem dX12_leaveTry_134 : decode cX12_leaveTry 134 = .ok (.return_, 1) := by decide +kernel
theorem dX12_outOfTry_0 : decode cX12_outOfTry 0 = .ok (.aload_n 0, 1) := by decide +kernel
theorem dX12_outOfTry_1 : decode cX12_outOfTry 1 = .ok (.getfield 217, 3) := by decide +kernel
theorem dX12_outOfTry_4 : decode cX12_outOfTry 4 = .ok (.iconst 1, 1) := by decide +kernel
theorem dX12_outOfTry_5 : decode cX12_outOfTry 5 = .ok (.isub, 1) := by decide +kernel
theorem dX12_outOfTry_6 : decode cX12_outOfTry 6 = .ok (.istore_n 1, 1) := by decide +kernel
theorem dX12_outOfTry_7 : decode cX12_outOfTry 7 = .ok (.aload_n 0, 1) := by decide +kernel
theorem dX12_outOfTry_8 : decode cX12_outOfTry 8 = .ok (.getfield 72, 3) := by decide +kernel
theorem dX12_outOfTry_11 : decode cX12_outOfTry 11 = .ok (.aload_n 0, 1) := by decide +kernel
theorem dX12_outOfTry_12 : decode cX12_outOfTry 12 = .ok (.getfield 220, 3) := by decide +kernel
theorem dX12_outOfTry_15 : decode cX12_outOfTry 15 = .ok (.iaload, 1) := by decide +kernel
theorem dX12_outOfTry_16 : decode cX12_outOfTry 16 = .ok (.istore_n 2, 1) := by decide +kernel
theorem dX12_outOfTry_17 : decode cX12_outOfTry 17 = .ok (.aload_n 0, 1) := by decide +kernel
theorem dX12_outOfTry_18 : decode cX12_outOfTry 18 = .ok (.getfield 72, 3) := by decide +kernel
theorem dX12_outOfTry_21 : decode cX12_outOfTry 21 = .ok (.iload_n 1, 1) := by decide +kernel
theorem dX12_outOfTry_22 : decode cX12_outOfTry 22 = .ok (.iaload, 1) := by decide +kernel
theorem dX12_outOfTry_23 : decode cX12_outOfTry 23 = .ok (.iconst 2, 1) := by decide +kernel
theorem dX12_outOfTry_24 : decode cX12_outOfTry 24 = .ok (.if_icmp .ne 60, 3) := by decide +kernel
theorem dX12_outOfTry_27 : decode cX12_outOfTry 27 = .ok (.aload_n 0, 1) := by decide +kernel
theorem dX12_outOfTry_28 : decode cX12_outOfTry 28 = .ok (.getfield 75, 3) := by decide +kernel
theorem dX12_outOfTry_31 : decode cX12_outOfTry 31 = .ok (.iload_n 1, 1) := by decide +kernel
theorem dX12_outOfTry_32 : decode cX12_outOfTry 32 = .ok (.iaload, 1) := by decide +kernel
theorem dX12_outOfTry_33 : decode cX12_outOfTry 33 = .ok (.iconst 3, 1) := by decide +kernel
theorem dX12_outOfTry_34 : decode cX12_outOfTry 34 = .ok (.if_icmp .ne 39, 3) := by decide +kernel
theorem dX12_outOfTry_37 : decode cX12_outOfTry 37 = .ok (.aload_n 0, 1) := by decide +kernel
theorem dX12_outOfTry_38 : decode cX12_outOfTry 38 = .ok (.getfield 255, 3) := by decide +kernel
theorem dX12_outOfTry_41 : decode cX12_outOfTry 41 = .ok (.iconst 3, 1) := by decide +kernel
theorem dX12_outOfTry_42 : decode cX12_outOfTry 42 = .ok (.if_icmp .ne 21, 3) := by decide +kernel
theorem dX12_outOfTry_45 : decode cX12_outOfTry 45 = .ok (.aload_n 0, 1) := by decide +kernel
theorem dX12_outOfTry_46 : decode cX12_outOfTry 46 = .ok (.getfield 126, 3) := by decide +kernel
theorem dX12_outOfTry_49 : decode cX12_outOfTry 49 = .ok (.aload_n 0, 1) := by decide +kernel
theorem dX12_outOfTry_50 : decode cX12_outOfTry 50 = .ok (.getfield 81, 3) := by decide +kernel
theorem dX12_outOfTry_53 : decode cX12_outOfTry 53 = .ok (.iload_n 1, 1) := by decide +kernel
theorem dX12_outOfTry_54 : decode cX12_outOfTry 54 = .ok (.iaload, 1) := by decide +kernel
theorem dX12_outOfTry_55 : decode cX12_outOfTry 55 = .ok (.aload_n 0, 1) := by decide +kernel
theorem dX12_outOfTry_56 : decode cX12_outOfTry 56 = .ok (.getfield 252, 3) := by decide +kernel
theorem dX12_outOfTry_59 : decode cX12_outOfTry 59 = .ok (.iastore, 1) := by decide +kernel
theorem dX12_outOfTry_60 : decode cX12_outOfTry 60 = .ok (.goto 13, 3) := by decide +kernel
theorem dX12_outOfTry_63 : decode cX12_outOfTry 63 = .ok (.aload_n 0, 1) := by decide +kernel
theorem dX12_outOfTry_64 : decode cX12_outOfTry 64 = .ok (.dup, 1) := by decide +kernel
theorem dX12_outOfTry_65 : decode cX12_outOfTry 65 = .ok (.getfield 300, 3) := by decide +kernel
theorem dX12_outOfTry_68 : decode cX12_outOfTry 68 = .ok (.iconst 1, 1) := by decide +kernel
theorem dX12_outOfTry_69 : decode cX12_outOfTry 69 = .ok (.iadd, 1) := by decide +kernel
theorem dX12_outOfTry_70 : decode cX12_outOfTry 70 = .ok (.putfield 300, 3) := by decide +kernel
theorem dX12_outOfTry_73 : decode cX12_outOfTry 73 = .ok (.aload_n 0, 1) := by decide +kernel
theorem dX12_outOfTry_74 : decode cX12_outOfTry 74 = .ok (.dup, 1) := by decide +kernel
theorem dX12_outOfTry_75 : decode cX12_outOfTry 75 = .ok (.getfield 217, 3) := by decide +kernel
theorem dX12_outOfTry_78 : decode cX12_outOfTry 78 = .ok (.iconst 1, 1) := by decide +kernel
theorem dX12_outOfTry_79 : decode cX12_outOfTry 79 = .ok (.isub, 1) := by decide +kernel
theorem dX12_outOfTry_80 : decode cX12_outOfTry 80 = .ok (.putfield 217, 3) := by decide +kernel
theorem dX12_outOfTry_83 : decode cX12_outOfTry 83 = .ok (.return_, 1) := by decide +kernel
theorem dX12_outOfTry_84 : decode cX12_outOfTry 84 = .ok (.aload_n 0, 1) := by decide +kernel
theorem dX12_outOfTry_85 : decode cX12_outOfTry 85 = .ok (.getfield 72, 3) := by decide +kernel
theorem dX12_outOfTry_88 : decode cX12_outOfTry 88 = .ok (.iload_n 1, 1) := by decide +kernel
theorem dX12_outOfTry_89 : decode cX12_outOfTry 89 = .ok (.iaload, 1) := by decide +kernel
theorem dX12_outOfTry_90 : decode cX12_outOfTry 90 = .ok (.ifCond .ne 77, 3) := by decide +kernel
theorem dX12_outOfTry_93 : decode cX12_outOfTry 93 = .ok (.aload_n 0, 1) := by decide +kernel
theorem dX12_outOfTry_94 : decode cX12_outOfTry 94 = .ok (.getfield 255, 3) := by decide +kernel
theorem dX12_outOfTry_97 : decode cX12_outOfTry 97 = .ok (.iconst 3, 1) := by decide +kernel
theorem dX12_outOfTry_98 : decode cX12_outOfTry 98 = .ok (.if_icmp .ne 69, 3) := by decide +kernel
theorem dX12_outOfTry_101 : decode cX12_outOfTry 101 = .ok (.aload_n 0, 1) := by decide +kernel
theorem dX12_outOfTry_102 : decode cX12_outOfTry 102 = .ok (.iload_n 2, 1) := by decide +kernel
theorem dX12_outOfTry_103 : decode cX12_outOfTry 103 = .ok (.aload_n 0, 1) := by decide +kernel
theorem dX12_outOfTry_104 : decode cX12_outOfTry 104 = .ok (.getfield 69, 3) := by decide +kernel
theorem dX12_outOfTry_107 : decode cX12_outOfTry 107 = .ok (.iload_n 1, 1) := by decide +kernel
theorem dX12_outOfTry_108 : decode cX12_outOfTry 108 = .ok (.iaload, 1) := by decide +kernel
theorem dX12_outOfTry_109 : decode cX12_outOfTry 109 = .ok (.invokevirtual 303, 3) := by decide +kernel
theorem dX12_outOfTry_112 : decode cX12_outOfTry 112 = .ok (.istore_n 3, 1) := by decide +kernel
theorem dX12_outOfTry_113 : decode cX12_outOfTry 113 = .ok (.iload_n 3, 1) := by decide +kernel
theorem dX12_outOfTry_114 : decode cX12_outOfTry 114 = .ok (.ifCond .lt 50, 3) := by decide +kernel
theorem dX12_outOfTry_117 : decode cX12_outOfTry 117 = .ok (.aload_n 0, 1) := by decide +kernel
theorem dX12_outOfTry_118 : decode cX12_outOfTry 118 = .ok (.getfield 72, 3) := by decide +kernel
theorem dX12_outOfTry_121 : decode cX12_outOfTry 121 = .ok (.iload_n 1, 1) := by decide +kernel
theorem dX12_outOfTry_122 : decode cX12_outOfTry 122 = .ok (.iconst 1, 1) := by decide +kernel
theorem dX12_outOfTry_123 : decode cX12_outOfTry 123 = .ok (.iastore, 1) := by decide +kernel
theorem dX12_outOfTry_124 : decode cX12_outOfTry 124 = .ok (.aload_n 0, 1) := by decide +kernel
theorem dX12_outOfTry_125 : decode cX12_outOfTry 125 = .ok (.getfield 78, 3) := by decide +kernel
theorem dX12_outOfTry_128 : decode cX12_outOfTry 128 = .ok (.iload_n 1, 1) := by decide +kernel
theorem dX12_outOfTry_129 : decode cX12_outOfTry 129 = .ok (.aload_n 0, 1) := by decide +kernel
theorem dX12_outOfTry_130 : decode cX12_outOfTry 130 = .ok (.getfield 252, 3) := by decide +kernel
theorem dX12_outOfTry_133 : decode cX12_outOfTry 133 = .ok (.iastore, 1) := by decide +kernel
theorem dX12_outOfTry_134 : decode cX12_outOfTry 134 = .ok (.aload_n 0, 1) := by decide +kernel
theorem dX12_outOfTry_135 : decode cX12_outOfTry 135 = .ok (.iconst 0, 1) := by decide +kernel
theorem dX12_outOfTry_136 : decode cX12_outOfTry 136 = .ok (.putfield 255, 3) := by decide +kernel
theorem dX12_outOfTry_139 : decode cX12_outOfTry 139 = .ok (.aload_n 0, 1) := by decide +kernel
theorem dX12_outOfTry_140 : decode cX12_outOfTry 140 = .ok (.invokevirtual 293, 3) := by decide +kernel
theorem dX12_outOfTry_143 : decode cX12_outOfTry 143 = .ok (.ifCond .eq 20, 3) := by decide +kernel
theorem dX12_outOfTry_146 : decode cX12_outOfTry 146 = .ok (.aload_n 0, 1) := by decide +kernel
theorem dX12_outOfTry_147 : decode cX12_outOfTry 147 = .ok (.getfield 81, 3) := by decide +kernel
theorem dX12_outOfTry_150 : decode cX12_outOfTry 150 = .ok (.aload_n 0, 1) := by decide +kernel
theorem dX12_outOfTry_151 : decode cX12_outOfTry 151 = .ok (.getfield 220, 3) := by decide +kernel
theorem dX12_outOfTry_154 : decode cX12_outOfTry 154 = .ok (.iload_n 3, 1) := by decide +kernel
theorem dX12_outOfTry_155 : decode cX12_outOfTry 155 = .ok (.iastore, 1) := by decide +kernel
theorem dX12_outOfTry_156 : decode cX12_outOfTry 156 = .ok (.aload_n 0, 1) := by decide +kernel
theorem dX12_outOfTry_157 : decode cX12_outOfTry 157 = .ok (.iload_n 3, 1) := by decide +kernel
theorem dX12_outOfTry_158 : decode cX12_outOfTry 158 = .ok (.iconst 1, 1) := by decide +kernel
theorem dX12_outOfTry_159 : decode cX12_outOfTry 159 = .ok (.iadd, 1) := by decide +kernel
theorem dX12_outOfTry_160 : decode cX12_outOfTry 160 = .ok (.invokevirtual 230, 3) := by decide +kernel
theorem dX12_outOfTry_163 : decode cX12_outOfTry 163 = .ok (.return_, 1) := by decide +kernel
theorem dX12_outOfTry_164 : decode cX12_outOfTry 164 = .ok (.goto 48, 3) := by decide +kernel
theorem dX12_outOfTry_167 : decode cX12_outOfTry 167 = .ok (.aload_n 0, 1) := by decide +kernel
theorem dX12_outOfTry_168 : decode cX12_outOfTry 168 = .ok (.getfield 72, 3) := by decide +kernel
theorem dX12_outOfTry_171 : decode cX12_outOfTry 171 = .ok (.iload_n 1, 1) := by decide +kernel
theorem dX12_outOfTry_172 : decode cX12_outOfTry 172 = .ok (.iaload, 1) := by decide +kernel
theorem dX12_outOfTry_173 : decode cX12_outOfTry 173 = .ok (.iconst 1, 1) := by decide +kernel
theorem dX12_outOfTry_174 : decode cX12_outOfTry 174 = .ok (.if_icmp .ne 38, 3) := by decide +kernel
theorem dX12_outOfTry_177 : decode cX12_outOfTry 177 = .ok (.aload_n 0, 1) := by decide +kernel
theorem dX12_outOfTry_178 : decode cX12_outOfTry 178 = .ok (.getfield 255, 3) := by decide +kernel
theorem dX12_outOfTry_181 : decode cX12_outOfTry 181 = .ok (.iconst 3, 1) := by decide +kernel
theorem dX12_outOfTry_182 : decode cX12_outOfTry 182 = .ok (.if_icmp .ne 30, 3) := by decide +kernel
theorem dX12_outOfTry_185 : decode cX12_outOfTry 185 = .ok (.aload_n 0, 1) := by decide +kernel
theorem dX12_outOfTry_186 : decode cX12_outOfTry 186 = .ok (.getfield 123, 3) := by decide +kernel
theorem dX12_outOfTry_189 : decode cX12_outOfTry 189 = .ok (.aload_n 0, 1) := by decide +kernel
theorem dX12_outOfTry_190 : decode cX12_outOfTry 190 = .ok (.getfield 252, 3) := by decide +kernel
theorem dX12_outOfTry_193 : decode cX12_outOfTry 193 = .ok (.iaload, 1) := by decide +kernel
theorem dX12_outOfTry_194 : decode cX12_outOfTry 194 = .ok (.ifCond .ge 18, 3) := by decide +kernel
theorem dX12_outOfTry_197 : decode cX12_outOfTry 197 = .ok (.aload_n 0, 1) := by decide +kernel
theorem dX12_outOfTry_198 : decode cX12_outOfTry 198 = .ok (.getfield 123, 3) := by decide +kernel
theorem dX12_outOfTry_201 : decode cX12_outOfTry 201 = .ok (.aload_n 0, 1) := by decide +kernel
theorem dX12_outOfTry_202 : decode cX12_outOfTry 202 = .ok (.getfield 252, 3) := by decide +kernel
theorem dX12_outOfTry_205 : decode cX12_outOfTry 205 = .ok (.aload_n 0, 1) := by decide +kernel
theorem dX12_outOfTry_206 : decode cX12_outOfTry 206 = .ok (.getfield 78, 3) := by decide +kernel
theorem dX12_outOfTry_209 : decode cX12_outOfTry 209 = .ok (.iload_n 1, 1) := by decide +kernel
theorem dX12_outOfTry_210 : decode cX12_outOfTry 210 = .ok (.iaload, 1) := by decide +kernel
theorem dX12_outOfTry_211 : decode cX12_outOfTry 211 = .ok (.iastore, 1) := by decide +kernel
theorem dX12_outOfTry_212 : decode cX12_outOfTry 212 = .ok (.aload_n 0, 1) := by decide +kernel
theorem dX12_outOfTry_213 : decode cX12_outOfTry 213 = .ok (.invokevirtual 306, 3) := by decide +kernel
theorem dX12_outOfTry_216 : decode cX12_outOfTry 216 = .ok (.return_, 1) := by decide +kernel
theorem dX12_unwind_0 : decode cX12_unwind 0 = .ok (.aload_n 0, 1) := by decide +kernel
theorem dX12_unwind_1 : decode cX12_unwind 1 = .ok (.getfield 217, 3) := by decide +kernel
theorem dX12_unwind_4 : decode cX12_unwind 4 = .ok (.iconst 1, 1) := by decide +kernel
theorem dX12_unwind_5 : decode cX12_unwind 5 = .ok (.isub, 1) := by decide +kernel
theorem dX12_unwind_6 : decode cX12_unwind 6 = .ok (.istore_n 1, 1) := by decide +kernel
theorem dX12_unwind_7 : decode cX12_unwind 7 = .ok (.aload_n 0, 1) := by decide +kernel
theorem dX12_unwind_8 : decode cX12_unwind 8 = .ok (.getfield 66, 3) := by decide +kernel
theorem dX12_unwind_11 : decode cX12_unwind 11 = .ok (.iload_n 1, 1) := by decide +kernel
theorem dX12_unwind_12 : decode cX12_unwind 12 = .ok (.iaload, 1) := by decide +kernel
theorem dX12_unwind_13 : decode cX12_unwind 13 = .ok (.tableswitch 92 11 13 #[41, 27, 34], 27) := by decide +kernel
theorem dX12_unwind_40 : decode cX12_unwind 40 = .ok (.aload_n 0, 1) := by decide +kernel
theorem dX12_unwind_41 : decode cX12_unwind 41 = .ok (.invokevirtual 309, 3) := by decide +kernel
theorem dX12_unwind_44 : decode cX12_unwind 44 = .ok (.goto 65, 3) := by decide +kernel
theorem dX12_unwind_47 : decode cX12_unwind 47 = .ok (.aload_n 0, 1) := by decide +kernel
theorem dX12_unwind_48 : decode cX12_unwind 48 = .ok (.invokevirtual 312, 3) := by decide +kernel
theorem dX12_unwind_51 : decode cX12_unwind 51 = .ok (.goto 58, 3) := by decide +kernel
theorem dX12_unwind_54 : decode cX12_unwind 54 = .ok (.aload_n 0, 1) := by decide +kernel
theorem dX12_unwind_55 : decode cX12_unwind 55 = .ok (.dup, 1) := by decide +kernel
theorem dX12_unwind_56 : decode cX12_unwind 56 = .ok (.getfield 217, 3) := by decide +kernel
theorem dX12_unwind_59 : decode cX12_unwind 59 = .ok (.iconst 1, 1) := by decide +kernel
theorem dX12_unwind_60 : decode cX12_unwind 60 = .ok (.isub, 1) := by decide +kernel
theorem dX12_unwind_61 : decode cX12_unwind 61 = .ok (.putfield 217, 3) := by decide +kernel
theorem dX12_unwind_64 : decode cX12_unwind 64 = .ok (.aload_n 0, 1) := by decide +kernel
theorem dX12_unwind_65 : decode cX12_unwind 65 = .ok (.getfield 255, 3) := by decide +kernel
theorem dX12_unwind_68 : decode cX12_unwind 68 = .ok (.iconst 2, 1) := by decide +kernel
theorem dX12_unwind_69 : decode cX12_unwind 69 = .ok (.if_icmp .ne 40, 3) := by decide +kernel
theorem dX12_unwind_72 : decode cX12_unwind 72 = .ok (.aload_n 0, 1) := by decide +kernel
theorem dX12_unwind_73 : decode cX12_unwind 73 = .ok (.iconst 0, 1) := by decide +kernel
theorem dX12_unwind_74 : decode cX12_unwind 74 = .ok (.putfield 255, 3) := by decide +kernel
theorem dX12_unwind_77 : decode cX12_unwind 77 = .ok (.aload_n 0, 1) := by decide +kernel
theorem dX12_unwind_78 : decode cX12_unwind 78 = .ok (.aload_n 0, 1) := by decide +kernel
theorem dX12_unwind_79 : decode cX12_unwind 79 = .ok (.aload_n 0, 1) := by decide +kernel
theorem dX12_unwind_80 : decode cX12_unwind 80 = .ok (.getfield 72, 3) := by decide +kernel
theorem dX12_unwind_83 : decode cX12_unwind 83 = .ok (.aload_n 0, 1) := by decide +kernel
theorem dX12_unwind_84 : decode cX12_unwind 84 = .ok (.getfield 220, 3) := by decide +kernel
theorem dX12_unwind_87 : decode cX12_unwind 87 = .ok (.iaload, 1) := by decide +kernel
theorem dX12_unwind_88 : decode cX12_unwind 88 = .ok (.aload_n 0, 1) := by decide +kernel
theorem dX12_unwind_89 : decode cX12_unwind 89 = .ok (.getfield 69, 3) := by decide +kernel
theorem dX12_unwind_92 : decode cX12_unwind 92 = .ok (.iload_n 1, 1) := by decide +kernel
theorem dX12_unwind_93 : decode cX12_unwind 93 = .ok (.iaload, 1) := by decide +kernel
theorem dX12_unwind_94 : decode cX12_unwind 94 = .ok (.invokevirtual 297, 3) := by decide +kernel
theorem dX12_unwind_97 : decode cX12_unwind 97 = .ok (.iconst 1, 1) := by decide +kernel
theorem dX12_unwind_98 : decode cX12_unwind 98 = .ok (.iadd, 1) := by decide +kernel
theorem dX12_unwind_99 : decode cX12_unwind 99 = .ok (.invokevirtual 230, 3) := by decide +kernel
theorem dX12_unwind_102 : decode cX12_unwind 102 = .ok (.goto 7, 3) := by decide +kernel
theorem dX12_unwind_105 : decode cX12_unwind 105 = .ok (.aload_n 0, 1) := by decide +kernel
theorem dX12_unwind_106 : decode cX12_unwind 106 = .ok (.invokevirtual 315, 3) := by decide +kernel
theorem dX12_unwind_109 : decode cX12_unwind 109 = .ok (.return_, 1) := by decide +kernel
theorem dX12_endAct_0 : decode cX12_endAct 0 = .ok (.aload_n 0, 1) := by decide +kernel
theorem dX12_endAct_1 : decode cX12_endAct 1 = .ok (.dup, 1) := by decide +kernel
theorem dX12_endAct_2 : decode cX12_endAct 2 = .ok (.getfield 217, 3) := by decide +kernel
theorem dX12_endAct_5 : decode cX12_endAct 5 = .ok (.iconst 1, 1) := by decide +kernel
theorem dX12_endAct_6 : decode cX12_endAct 6 = .ok (.isub, 1) := by decide +kernel
theorem dX12_endAct_7 : decode cX12_endAct 7 = .ok (.putfield 217, 3) := by decide +kernel
theorem dX12_endAct_10 : decode cX12_endAct 10 = .ok (.aload_n 0, 1) := by decide +kernel
theorem dX12_endAct_11 : decode cX12_endAct 11 = .ok (.dup, 1) := by decide +kernel
theorem dX12_endAct_12 : decode cX12_endAct 12 = .ok (.getfield 223, 3) := by decide +kernel
theorem dX12_endAct_15 : decode cX12_endAct 15 = .ok (.iconst 1, 1) := by decide +kernel
theorem dX12_endAct_16 : decode cX12_endAct 16 = .ok (.isub, 1) := by decide +kernel
theorem dX12_endAct_17 : decode cX12_endAct 17 = .ok (.putfield 223, 3) := by decide +kernel
theorem dX12_endAct_20 : decode cX12_endAct 20 = .ok (.aload_n 0, 1) := by decide +kernel
theorem dX12_endAct_21 : decode cX12_endAct 21 = .ok (.invokevirtual 318, 3) := by decide +kernel
theorem dX12_endAct_24 : decode cX12_endAct 24 = .ok (.aload_n 0, 1) := by decide +kernel
theorem dX12_endAct_25 : decode cX12_endAct 25 = .ok (.getfield 220, 3) := by decide +kernel
