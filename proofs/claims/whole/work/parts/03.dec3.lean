theorem dX12_endAct_28 : decode cX12_endAct 28 = .ok (.ifCond .ge 48, 3) := by decide +kernel
theorem dX12_endAct_31 : decode cX12_endAct 31 = .ok (.aload_n 0, 1) := by decide +kernel
theorem dX12_endAct_32 : decode cX12_endAct 32 = .ok (.iconst 1, 1) := by decide +kernel
theorem dX12_endAct_33 : decode cX12_endAct 33 = .ok (.putfield 270, 3) := by decide +kernel
theorem dX12_endAct_36 : decode cX12_endAct 36 = .ok (.aload_n 0, 1) := by decide +kernel
theorem dX12_endAct_37 : decode cX12_endAct 37 = .ok (.aload_n 0, 1) := by decide +kernel
theorem dX12_endAct_38 : decode cX12_endAct 38 = .ok (.getfield 255, 3) := by decide +kernel
theorem dX12_endAct_41 : decode cX12_endAct 41 = .ok (.iconst 3, 1) := by decide +kernel
theorem dX12_endAct_42 : decode cX12_endAct 42 = .ok (.if_icmp .ne 7, 3) := by decide +kernel
theorem dX12_endAct_45 : decode cX12_endAct 45 = .ok (.iconst 1, 1) := by decide +kernel
theorem dX12_endAct_46 : decode cX12_endAct 46 = .ok (.goto 4, 3) := by decide +kernel
theorem dX12_endAct_49 : decode cX12_endAct 49 = .ok (.iconst 0, 1) := by decide +kernel
theorem dX12_endAct_50 : decode cX12_endAct 50 = .ok (.putfield 267, 3) := by decide +kernel
theorem dX12_endAct_53 : decode cX12_endAct 53 = .ok (.aload_n 0, 1) := by decide +kernel
theorem dX12_endAct_54 : decode cX12_endAct 54 = .ok (.aload_n 0, 1) := by decide +kernel
theorem dX12_endAct_55 : decode cX12_endAct 55 = .ok (.getfield 255, 3) := by decide +kernel
theorem dX12_endAct_58 : decode cX12_endAct 58 = .ok (.iconst 3, 1) := by decide +kernel
theorem dX12_endAct_59 : decode cX12_endAct 59 = .ok (.if_icmp .ne 10, 3) := by decide +kernel
theorem dX12_endAct_62 : decode cX12_endAct 62 = .ok (.aload_n 0, 1) := by decide +kernel
theorem dX12_endAct_63 : decode cX12_endAct 63 = .ok (.getfield 252, 3) := by decide +kernel
theorem dX12_endAct_66 : decode cX12_endAct 66 = .ok (.goto 4, 3) := by decide +kernel
theorem dX12_endAct_69 : decode cX12_endAct 69 = .ok (.iconst (-1), 1) := by decide +kernel
theorem dX12_endAct_70 : decode cX12_endAct 70 = .ok (.putfield 129, 3) := by decide +kernel
theorem dX12_endAct_73 : decode cX12_endAct 73 = .ok (.goto 16, 3) := by decide +kernel
theorem dX12_endAct_76 : decode cX12_endAct 76 = .ok (.aload_n 0, 1) := by decide +kernel
theorem dX12_endAct_77 : decode cX12_endAct 77 = .ok (.getfield 255, 3) := by decide +kernel
theorem dX12_endAct_80 : decode cX12_endAct 80 = .ok (.iconst 1, 1) := by decide +kernel
theorem dX12_endAct_81 : decode cX12_endAct 81 = .ok (.if_icmp .ne 8, 3) := by decide +kernel
theorem dX12_endAct_84 : decode cX12_endAct 84 = .ok (.aload_n 0, 1) := by decide +kernel
theorem dX12_endAct_85 : decode cX12_endAct 85 = .ok (.iconst 0, 1) := by decide +kernel
theorem dX12_endAct_86 : decode cX12_endAct 86 = .ok (.putfield 255, 3) := by decide +kernel
theorem dX12_endAct_89 : decode cX12_endAct 89 = .ok (.return_, 1) := by decide +kernel
theorem dX12_newLoan_0 : decode cX12_newLoan 0 = .ok (.aload_n 0, 1) := by decide +kernel
theorem dX12_newLoan_1 : decode cX12_newLoan 1 = .ok (.getfield 258, 3) := by decide +kernel
theorem dX12_newLoan_4 : decode cX12_newLoan 4 = .ok (.istore 4, 2) := by decide +kernel
theorem dX12_newLoan_6 : decode cX12_newLoan 6 = .ok (.aload_n 0, 1) := by decide +kernel
theorem dX12_newLoan_7 : decode cX12_newLoan 7 = .ok (.getfield 87, 3) := by decide +kernel
theorem dX12_newLoan_10 : decode cX12_newLoan 10 = .ok (.iload 4, 2) := by decide +kernel
theorem dX12_newLoan_12 : decode cX12_newLoan 12 = .ok (.iload_n 1, 1) := by decide +kernel
theorem dX12_newLoan_13 : decode cX12_newLoan 13 = .ok (.iastore, 1) := by decide +kernel
theorem dX12_newLoan_14 : decode cX12_newLoan 14 = .ok (.aload_n 0, 1) := by decide +kernel
theorem dX12_newLoan_15 : decode cX12_newLoan 15 = .ok (.getfield 90, 3) := by decide +kernel
theorem dX12_newLoan_18 : decode cX12_newLoan 18 = .ok (.iload 4, 2) := by decide +kernel
theorem dX12_newLoan_20 : decode cX12_newLoan 20 = .ok (.iload_n 2, 1) := by decide +kernel
theorem dX12_newLoan_21 : decode cX12_newLoan 21 = .ok (.iastore, 1) := by decide +kernel
theorem dX12_newLoan_22 : decode cX12_newLoan 22 = .ok (.aload_n 0, 1) := by decide +kernel
theorem dX12_newLoan_23 : decode cX12_newLoan 23 = .ok (.getfield 93, 3) := by decide +kernel
theorem dX12_newLoan_26 : decode cX12_newLoan 26 = .ok (.iload 4, 2) := by decide +kernel
theorem dX12_newLoan_28 : decode cX12_newLoan 28 = .ok (.iload_n 3, 1) := by decide +kernel
theorem dX12_newLoan_29 : decode cX12_newLoan 29 = .ok (.iastore, 1) := by decide +kernel
theorem dX12_newLoan_30 : decode cX12_newLoan 30 = .ok (.aload_n 0, 1) := by decide +kernel
theorem dX12_newLoan_31 : decode cX12_newLoan 31 = .ok (.getfield 102, 3) := by decide +kernel
theorem dX12_newLoan_34 : decode cX12_newLoan 34 = .ok (.iload 4, 2) := by decide +kernel
theorem dX12_newLoan_36 : decode cX12_newLoan 36 = .ok (.iconst 1, 1) := by decide +kernel
theorem dX12_newLoan_37 : decode cX12_newLoan 37 = .ok (.bastore, 1) := by decide +kernel
theorem dX12_newLoan_38 : decode cX12_newLoan 38 = .ok (.aload_n 0, 1) := by decide +kernel
theorem dX12_newLoan_39 : decode cX12_newLoan 39 = .ok (.getfield 96, 3) := by decide +kernel
theorem dX12_newLoan_42 : decode cX12_newLoan 42 = .ok (.iload 4, 2) := by decide +kernel
theorem dX12_newLoan_44 : decode cX12_newLoan 44 = .ok (.aload_n 0, 1) := by decide +kernel
theorem dX12_newLoan_45 : decode cX12_newLoan 45 = .ok (.iconst 0, 1) := by decide +kernel
theorem dX12_newLoan_46 : decode cX12_newLoan 46 = .ok (.invokevirtual 321, 3) := by decide +kernel
theorem dX12_newLoan_49 : decode cX12_newLoan 49 = .ok (.iastore, 1) := by decide +kernel
theorem dX12_newLoan_50 : decode cX12_newLoan 50 = .ok (.aload_n 0, 1) := by decide +kernel
theorem dX12_newLoan_51 : decode cX12_newLoan 51 = .ok (.getfield 99, 3) := by decide +kernel
theorem dX12_newLoan_54 : decode cX12_newLoan 54 = .ok (.iload 4, 2) := by decide +kernel
theorem dX12_newLoan_56 : decode cX12_newLoan 56 = .ok (.aload_n 0, 1) := by decide +kernel
theorem dX12_newLoan_57 : decode cX12_newLoan 57 = .ok (.getfield 324, 3) := by decide +kernel
theorem dX12_newLoan_60 : decode cX12_newLoan 60 = .ok (.iastore, 1) := by decide +kernel
theorem dX12_newLoan_61 : decode cX12_newLoan 61 = .ok (.aload_n 0, 1) := by decide +kernel
theorem dX12_newLoan_62 : decode cX12_newLoan 62 = .ok (.dup, 1) := by decide +kernel
theorem dX12_newLoan_63 : decode cX12_newLoan 63 = .ok (.getfield 324, 3) := by decide +kernel
theorem dX12_newLoan_66 : decode cX12_newLoan 66 = .ok (.iconst 1, 1) := by decide +kernel
theorem dX12_newLoan_67 : decode cX12_newLoan 67 = .ok (.iadd, 1) := by decide +kernel
theorem dX12_newLoan_68 : decode cX12_newLoan 68 = .ok (.putfield 324, 3) := by decide +kernel
theorem dX12_newLoan_71 : decode cX12_newLoan 71 = .ok (.aload_n 0, 1) := by decide +kernel
theorem dX12_newLoan_72 : decode cX12_newLoan 72 = .ok (.dup, 1) := by decide +kernel
theorem dX12_newLoan_73 : decode cX12_newLoan 73 = .ok (.getfield 258, 3) := by decide +kernel
theorem dX12_newLoan_76 : decode cX12_newLoan 76 = .ok (.iconst 1, 1) := by decide +kernel
theorem dX12_newLoan_77 : decode cX12_newLoan 77 = .ok (.iadd, 1) := by decide +kernel
theorem dX12_newLoan_78 : decode cX12_newLoan 78 = .ok (.putfield 258, 3) := by decide +kernel
theorem dX12_newLoan_81 : decode cX12_newLoan 81 = .ok (.aload_n 0, 1) := by decide +kernel
theorem dX12_newLoan_82 : decode cX12_newLoan 82 = .ok (.dup, 1) := by decide +kernel
theorem dX12_newLoan_83 : decode cX12_newLoan 83 = .ok (.getfield 327, 3) := by decide +kernel
theorem dX12_newLoan_86 : decode cX12_newLoan 86 = .ok (.iconst 1, 1) := by decide +kernel
theorem dX12_newLoan_87 : decode cX12_newLoan 87 = .ok (.iadd, 1) := by decide +kernel
theorem dX12_newLoan_88 : decode cX12_newLoan 88 = .ok (.putfield 327, 3) := by decide +kernel
theorem dX12_newLoan_91 : decode cX12_newLoan 91 = .ok (.iload_n 2, 1) := by decide +kernel
theorem dX12_newLoan_92 : decode cX12_newLoan 92 = .ok (.iconst 2, 1) := by decide +kernel
theorem dX12_newLoan_93 : decode cX12_newLoan 93 = .ok (.if_icmp .eq 10, 3) := by decide +kernel
theorem dX12_newLoan_96 : decode cX12_newLoan 96 = .ok (.aload_n 0, 1) := by decide +kernel
theorem dX12_newLoan_97 : decode cX12_newLoan 97 = .ok (.getfield 16, 3) := by decide +kernel
theorem dX12_newLoan_100 : decode cX12_newLoan 100 = .ok (.iload_n 1, 1) := by decide +kernel
theorem dX12_newLoan_101 : decode cX12_newLoan 101 = .ok (.iconst 1, 1) := by decide +kernel
theorem dX12_newLoan_102 : decode cX12_newLoan 102 = .ok (.iastore, 1) := by decide +kernel
theorem dX12_newLoan_103 : decode cX12_newLoan 103 = .ok (.iload 4, 2) := by decide +kernel
theorem dX12_newLoan_105 : decode cX12_newLoan 105 = .ok (.ireturn, 1) := by decide +kernel
theorem dX12_innermost_0 : decode cX12_innermost 0 = .ok (.iload_n 1, 1) := by decide +kernel
theorem dX12_innermost_1 : decode cX12_innermost 1 = .ok (.istore_n 2, 1) := by decide +kernel
theorem dX12_innermost_2 : decode cX12_innermost 2 = .ok (.aload_n 0, 1) := by decide +kernel
theorem dX12_innermost_3 : decode cX12_innermost 3 = .ok (.getfield 217, 3) := by decide +kernel
theorem dX12_innermost_6 : decode cX12_innermost 6 = .ok (.iconst 1, 1) := by decide +kernel
theorem dX12_innermost_7 : decode cX12_innermost 7 = .ok (.isub, 1) := by decide +kernel
theorem dX12_innermost_8 : decode cX12_innermost 8 = .ok (.istore_n 3, 1) := by decide +kernel
theorem dX12_innermost_9 : decode cX12_innermost 9 = .ok (.iload_n 3, 1) := by decide +kernel
theorem dX12_innermost_10 : decode cX12_innermost 10 = .ok (.ifCond .lt 34, 3) := by decide +kernel
theorem dX12_innermost_13 : decode cX12_innermost 13 = .ok (.aload_n 0, 1) := by decide +kernel
theorem dX12_innermost_14 : decode cX12_innermost 14 = .ok (.getfield 66, 3) := by decide +kernel
theorem dX12_innermost_17 : decode cX12_innermost 17 = .ok (.iload_n 3, 1) := by decide +kernel
theorem dX12_innermost_18 : decode cX12_innermost 18 = .ok (.iaload, 1) := by decide +kernel
theorem dX12_innermost_19 : decode cX12_innermost 19 = .ok (.bipush 12, 2) := by decide +kernel
theorem dX12_innermost_21 : decode cX12_innermost 21 = .ok (.if_icmp .ne 17, 3) := by decide +kernel
theorem dX12_innermost_24 : decode cX12_innermost 24 = .ok (.iload_n 2, 1) := by decide +kernel
theorem dX12_innermost_25 : decode cX12_innermost 25 = .ok (.ifCond .ne 10, 3) := by decide +kernel
theorem dX12_innermost_28 : decode cX12_innermost 28 = .ok (.aload_n 0, 1) := by decide +kernel
theorem dX12_innermost_29 : decode cX12_innermost 29 = .ok (.getfield 72, 3) := by decide +kernel
theorem dX12_innermost_32 : decode cX12_innermost 32 = .ok (.iload_n 3, 1) := by decide +kernel
theorem dX12_innermost_33 : decode cX12_innermost 33 = .ok (.iaload, 1) := by decide +kernel
theorem dX12_innermost_34 : decode cX12_innermost 34 = .ok (.ireturn, 1) := by decide +kernel
theorem dX12_innermost_35 : decode cX12_innermost 35 = .ok (.iinc 2 (-1), 3) := by decide +kernel
theorem dX12_innermost_38 : decode cX12_innermost 38 = .ok (.iinc 3 (-1), 3) := by decide +kernel
theorem dX12_innermost_41 : decode cX12_innermost 41 = .ok (.goto (-32), 3) := by decide +kernel
theorem dX12_innermost_44 : decode cX12_innermost 44 = .ok (.iconst (-1), 1) := by decide +kernel
theorem dX12_innermost_45 : decode cX12_innermost 45 = .ok (.ireturn, 1) := by decide +kernel
theorem dX12_trace_0 : decode cX12_trace 0 = .ok (.iconst 0, 1) := by decide +kernel
theorem dX12_trace_1 : decode cX12_trace 1 = .ok (.istore_n 2, 1) := by decide +kernel
theorem dX12_trace_2 : decode cX12_trace 2 = .ok (.iconst 0, 1) := by decide +kernel
theorem dX12_trace_3 : decode cX12_trace 3 = .ok (.istore_n 3, 1) := by decide +kernel
theorem dX12_trace_4 : decode cX12_trace 4 = .ok (.iload_n 3, 1) := by decide +kernel
theorem dX12_trace_5 : decode cX12_trace 5 = .ok (.aload_n 0, 1) := by decide +kernel
theorem dX12_trace_6 : decode cX12_trace 6 = .ok (.getfield 217, 3) := by decide +kernel
theorem dX12_trace_9 : decode cX12_trace 9 = .ok (.if_icmp .ge 63, 3) := by decide +kernel
theorem dX12_trace_12 : decode cX12_trace 12 = .ok (.aload_n 0, 1) := by decide +kernel
theorem dX12_trace_13 : decode cX12_trace 13 = .ok (.getfield 66, 3) := by decide +kernel
theorem dX12_trace_16 : decode cX12_trace 16 = .ok (.iload_n 3, 1) := by decide +kernel
theorem dX12_trace_17 : decode cX12_trace 17 = .ok (.iaload, 1) := by decide +kernel
theorem dX12_trace_18 : decode cX12_trace 18 = .ok (.bipush 17, 2) := by decide +kernel
theorem dX12_trace_20 : decode cX12_trace 20 = .ok (.if_icmp .ne 46, 3) := by decide +kernel
theorem dX12_trace_23 : decode cX12_trace 23 = .ok (.aload_n 0, 1) := by decide +kernel
theorem dX12_trace_24 : decode cX12_trace 24 = .ok (.getfield 108, 3) := by decide +kernel
theorem dX12_trace_27 : decode cX12_trace 27 = .ok (.bipush 20, 2) := by decide +kernel
theorem dX12_trace_29 : decode cX12_trace 29 = .ok (.iload_n 1, 1) := by decide +kernel
theorem dX12_trace_30 : decode cX12_trace 30 = .ok (.imul, 1) := by decide +kernel
theorem dX12_trace_31 : decode cX12_trace 31 = .ok (.iconst 2, 1) := by decide +kernel
theorem dX12_trace_32 : decode cX12_trace 32 = .ok (.iload_n 2, 1) := by decide +kernel
theorem dX12_trace_33 : decode cX12_trace 33 = .ok (.imul, 1) := by decide +kernel
theorem dX12_trace_34 : decode cX12_trace 34 = .ok (.iadd, 1) := by decide +kernel
theorem dX12_trace_35 : decode cX12_trace 35 = .ok (.aload_n 0, 1) := by decide +kernel
theorem dX12_trace_36 : decode cX12_trace 36 = .ok (.getfield 72, 3) := by decide +kernel
theorem dX12_trace_39 : decode cX12_trace 39 = .ok (.iload_n 3, 1) := by decide +kernel
theorem dX12_trace_40 : decode cX12_trace 40 = .ok (.iaload, 1) := by decide +kernel
theorem dX12_trace_41 : decode cX12_trace 41 = .ok (.iastore, 1) := by decide +kernel
theorem dX12_trace_42 : decode cX12_trace 42 = .ok (.aload_n 0, 1) := by decide +kernel
theorem dX12_trace_43 : decode cX12_trace 43 = .ok (.getfield 108, 3) := by decide +kernel
theorem dX12_trace_46 : decode cX12_trace 46 = .ok (.bipush 20, 2) := by decide +kernel
theorem dX12_trace_48 : decode cX12_trace 48 = .ok (.iload_n 1, 1) := by decide +kernel
theorem dX12_trace_49 : decode cX12_trace 49 = .ok (.imul, 1) := by decide +kernel
theorem dX12_trace_50 : decode cX12_trace 50 = .ok (.iconst 2, 1) := by decide +kernel
theorem dX12_trace_51 : decode cX12_trace 51 = .ok (.iload_n 2, 1) := by decide +kernel
theorem dX12_trace_52 : decode cX12_trace 52 = .ok (.imul, 1) := by decide +kernel
theorem dX12_trace_53 : decode cX12_trace 53 = .ok (.iadd, 1) := by decide +kernel
theorem dX12_trace_54 : decode cX12_trace 54 = .ok (.iconst 1, 1) := by decide +kernel
theorem dX12_trace_55 : decode cX12_trace 55 = .ok (.iadd, 1) := by decide +kernel
theorem dX12_trace_56 : decode cX12_trace 56 = .ok (.aload_n 0, 1) := by decide +kernel
theorem dX12_trace_57 : decode cX12_trace 57 = .ok (.getfield 81, 3) := by decide +kernel
theorem dX12_trace_60 : decode cX12_trace 60 = .ok (.iload_n 3, 1) := by decide +kernel
theorem dX12_trace_61 : decode cX12_trace 61 = .ok (.iaload, 1) := by decide +kernel
theorem dX12_trace_62 : decode cX12_trace 62 = .ok (.iastore, 1) := by decide +kernel
theorem dX12_trace_63 : decode cX12_trace 63 = .ok (.iinc 2 1, 3) := by decide +kernel
theorem dX12_trace_66 : decode cX12_trace 66 = .ok (.iinc 3 1, 3) := by decide +kernel
theorem dX12_trace_69 : decode cX12_trace 69 = .ok (.goto (-65), 3) := by decide +kernel
theorem dX12_trace_72 : decode cX12_trace 72 = .ok (.aload_n 0, 1) := by decide +kernel
theorem dX12_trace_73 : decode cX12_trace 73 = .ok (.getfield 105, 3) := by decide +kernel
theorem dX12_trace_76 : decode cX12_trace 76 = .ok (.iload_n 1, 1) := by decide +kernel
theorem dX12_trace_77 : decode cX12_trace 77 = .ok (.iload_n 2, 1) := by decide +kernel
theorem dX12_trace_78 : decode cX12_trace 78 = .ok (.iastore, 1) := by decide +kernel
theorem dX12_trace_79 : decode cX12_trace 79 = .ok (.return_, 1) := by decide +kernel
theorem dX12_doLine_0 : decode cX12_doLine 0 = .ok (.aload_n 0, 1) := by decide +kernel
theorem dX12_doLine_1 : decode cX12_doLine 1 = .ok (.getfield 50, 3) := by decide +kernel
theorem dX12_doLine_4 : decode cX12_doLine 4 = .ok (.bipush 40, 2) := by decide +kernel
theorem dX12_doLine_6 : decode cX12_doLine 6 = .ok (.iload_n 1, 1) := by decide +kernel
theorem dX12_doLine_7 : decode cX12_doLine 7 = .ok (.imul, 1) := by decide +kernel
theorem dX12_doLine_8 : decode cX12_doLine 8 = .ok (.iload_n 2, 1) := by decide +kernel
theorem dX12_doLine_9 : decode cX12_doLine 9 = .ok (.iadd, 1) := by decide +kernel
theorem dX12_doLine_10 : decode cX12_doLine 10 = .ok (.iaload, 1) := by decide +kernel
theorem dX12_doLine_11 : decode cX12_doLine 11 = .ok (.istore_n 3, 1) := by decide +kernel
theorem dX12_doLine_12 : decode cX12_doLine 12 = .ok (.aload_n 0, 1) := by decide +kernel
theorem dX12_doLine_13 : decode cX12_doLine 13 = .ok (.getfield 53, 3) := by decide +kernel
theorem dX12_doLine_16 : decode cX12_doLine 16 = .ok (.bipush 40, 2) := by decide +kernel
theorem dX12_doLine_18 : decode cX12_doLine 18 = .ok (.iload_n 1, 1) := by decide +kernel
theorem dX12_doLine_19 : decode cX12_doLine 19 = .ok (.imul, 1) := by decide +kernel
theorem dX12_doLine_20 : decode cX12_doLine 20 = .ok (.iload_n 2, 1) := by decide +kernel
theorem dX12_doLine_21 : decode cX12_doLine 21 = .ok (.iadd, 1) := by decide +kernel
theorem dX12_doLine_22 : decode cX12_doLine 22 = .ok (.iaload, 1) := by decide +kernel
theorem dX12_doLine_23 : decode cX12_doLine 23 = .ok (.istore 4, 2) := by decide +kernel
theorem dX12_doLine_25 : decode cX12_doLine 25 = .ok (.aload_n 0, 1) := by decide +kernel
theorem dX12_doLine_26 : decode cX12_doLine 26 = .ok (.getfield 56, 3) := by decide +kernel
theorem dX12_doLine_29 : decode cX12_doLine 29 = .ok (.bipush 40, 2) := by decide +kernel
theorem dX12_doLine_31 : decode cX12_doLine 31 = .ok (.iload_n 1, 1) := by decide +kernel
theorem dX12_doLine_32 : decode cX12_doLine 32 = .ok (.imul, 1) := by decide +kernel
theorem dX12_doLine_33 : decode cX12_doLine 33 = .ok (.iload_n 2, 1) := by decide +kernel
theorem dX12_doLine_34 : decode cX12_doLine 34 = .ok (.iadd, 1) := by decide +kernel
theorem dX12_doLine_35 : decode cX12_doLine 35 = .ok (.iaload, 1) := by decide +kernel
theorem dX12_doLine_36 : decode cX12_doLine 36 = .ok (.istore 5, 2) := by decide +kernel
theorem dX12_doLine_38 : decode cX12_doLine 38 = .ok (.bipush 8, 2) := by decide +kernel
theorem dX12_doLine_40 : decode cX12_doLine 40 = .ok (.aload_n 0, 1) := by decide +kernel
theorem dX12_doLine_41 : decode cX12_doLine 41 = .ok (.getfield 223, 3) := by decide +kernel
theorem dX12_doLine_44 : decode cX12_doLine 44 = .ok (.iconst 1, 1) := by decide +kernel
theorem dX12_doLine_45 : decode cX12_doLine 45 = .ok (.isub, 1) := by decide +kernel
theorem dX12_doLine_46 : decode cX12_doLine 46 = .ok (.imul, 1) := by decide +kernel
theorem dX12_doLine_47 : decode cX12_doLine 47 = .ok (.istore 6, 2) := by decide +kernel
theorem dX12_doLine_49 : decode cX12_doLine 49 = .ok (.aload_n 0, 1) := by decide +kernel
theorem dX12_doLine_50 : decode cX12_doLine 50 = .ok (.iload_n 2, 1) := by decide +kernel
theorem dX12_doLine_51 : decode cX12_doLine 51 = .ok (.iconst 1, 1) := by decide +kernel
theorem dX12_doLine_52 : decode cX12_doLine 52 = .ok (.iadd, 1) := by decide +kernel
theorem dX12_doLine_53 : decode cX12_doLine 53 = .ok (.invokevirtual 230, 3) := by decide +kernel
theorem dX12_doLine_56 : decode cX12_doLine 56 = .ok (.iload_n 3, 1) := by decide +kernel
theorem dX12_doLine_57 : decode cX12_doLine 57 = .ok (.tableswitch 418 0 12 #[67, 146, 67, 227, 227, 227, 227, 250, 349, 360, 368, 376, 410], 67) := by decide +kernel
theorem dX12_doLine_124 : decode cX12_doLine 124 = .ok (.aload_n 0, 1) := by decide +kernel
theorem dX12_doLine_125 : decode cX12_doLine 125 = .ok (.iload 5, 2) := by decide +kernel
theorem dX12_doLine_127 : decode cX12_doLine 127 = .ok (.invokevirtual 156, 3) := by decide +kernel
theorem dX12_doLine_130 : decode cX12_doLine 130 = .ok (.ifCond .ne 13, 3) := by decide +kernel
theorem dX12_doLine_133 : decode cX12_doLine 133 = .ok (.aload_n 0, 1) := by decide +kernel
theorem dX12_doLine_134 : decode cX12_doLine 134 = .ok (.getfield 16, 3) := by decide +kernel
theorem dX12_doLine_137 : decode cX12_doLine 137 = .ok (.iload 5, 2) := by decide +kernel
theorem dX12_doLine_139 : decode cX12_doLine 139 = .ok (.iaload, 1) := by decide +kernel
theorem dX12_doLine_140 : decode cX12_doLine 140 = .ok (.ifCond .eq 14, 3) := by decide +kernel
theorem dX12_doLine_143 : decode cX12_doLine 143 = .ok (.aload_n 0, 1) := by decide +kernel
theorem dX12_doLine_144 : decode cX12_doLine 144 = .ok (.iconst 2, 1) := by decide +kernel
theorem dX12_doLine_145 : decode cX12_doLine 145 = .ok (.iload_n 2, 1) := by decide +kernel
theorem dX12_doLine_146 : decode cX12_doLine 146 = .ok (.iload 5, 2) := by decide +kernel
theorem dX12_doLine_148 : decode cX12_doLine 148 = .ok (.invokevirtual 330, 3) := by decide +kernel
theorem dX12_doLine_151 : decode cX12_doLine 151 = .ok (.goto 332, 3) := by decide +kernel
theorem dX12_doLine_154 : decode cX12_doLine 154 = .ok (.aload_n 0, 1) := by decide +kernel
theorem dX12_doLine_155 : decode cX12_doLine 155 = .ok (.getfield 84, 3) := by decide +kernel
theorem dX12_doLine_158 : decode cX12_doLine 158 = .ok (.iload 6, 2) := by decide +kernel
theorem dX12_doLine_160 : decode cX12_doLine 160 = .ok (.iload 4, 2) := by decide +kernel
theorem dX12_doLine_162 : decode cX12_doLine 162 = .ok (.iadd, 1) := by decide +kernel
theorem dX12_doLine_163 : decode cX12_doLine 163 = .ok (.aload_n 0, 1) := by decide +kernel
theorem dX12_doLine_164 : decode cX12_doLine 164 = .ok (.iload 5, 2) := by decide +kernel
theorem dX12_doLine_166 : decode cX12_doLine 166 = .ok (.iload_n 3, 1) := by decide +kernel
theorem dX12_doLine_167 : decode cX12_doLine 167 = .ok (.iconst 2, 1) := by decide +kernel
theorem dX12_doLine_168 : decode cX12_doLine 168 = .ok (.if_icmp .ne 7, 3) := by decide +kernel
theorem dX12_doLine_171 : decode cX12_doLine 171 = .ok (.iconst 1, 1) := by decide +kernel
theorem dX12_doLine_172 : decode cX12_doLine 172 = .ok (.goto 4, 3) := by decide +kernel
theorem dX12_doLine_175 : decode cX12_doLine 175 = .ok (.iconst 0, 1) := by decide +kernel
theorem dX12_doLine_176 : decode cX12_doLine 176 = .ok (.iconst (-1), 1) := by decide +kernel
theorem dX12_doLine_177 : decode cX12_doLine 177 = .ok (.invokevirtual 333, 3) := by decide +kernel
theorem dX12_doLine_180 : decode cX12_doLine 180 = .ok (.iastore, 1) := by decide +kernel
theorem dX12_doLine_181 : decode cX12_doLine 181 = .ok (.iload_n 3, 1) := by decide +kernel
theorem dX12_doLine_182 : decode cX12_doLine 182 = .ok (.iconst 2, 1) := by decide +kernel
theorem dX12_doLine_183 : decode cX12_doLine 183 = .ok (.if_icmp .ne 300, 3) := by decide +kernel
theorem dX12_doLine_186 : decode cX12_doLine 186 = .ok (.aload_n 0, 1) := by decide +kernel
theorem dX12_doLine_187 : decode cX12_doLine 187 = .ok (.aload_n 0, 1) := by decide +kernel
theorem dX12_doLine_188 : decode cX12_doLine 188 = .ok (.getfield 84, 3) := by decide +kernel
theorem dX12_doLine_191 : decode cX12_doLine 191 = .ok (.iload 6, 2) := by decide +kernel
theorem dX12_doLine_193 : decode cX12_doLine 193 = .ok (.iload 4, 2) := by decide +kernel
theorem dX12_doLine_195 : decode cX12_doLine 195 = .ok (.iadd, 1) := by decide +kernel
theorem dX12_doLine_196 : decode cX12_doLine 196 = .ok (.iaload, 1) := by decide +kernel
theorem dX12_doLine_197 : decode cX12_doLine 197 = .ok (.invokevirtual 336, 3) := by decide +kernel
theorem dX12_doLine_200 : decode cX12_doLine 200 = .ok (.goto 283, 3) := by decide +kernel
theorem dX12_doLine_203 : decode cX12_doLine 203 = .ok (.iconst 0, 1) := by decide +kernel
theorem dX12_doLine_204 : decode cX12_doLine 204 = .ok (.istore 7, 2) := by decide +kernel
theorem dX12_doLine_206 : decode cX12_doLine 206 = .ok (.iload 7, 2) := by decide +kernel
theorem dX12_doLine_208 : decode cX12_doLine 208 = .ok (.aload_n 0, 1) := by decide +kernel
theorem dX12_doLine_209 : decode cX12_doLine 209 = .ok (.getfield 153, 3) := by decide +kernel
theorem dX12_doLine_212 : decode cX12_doLine 212 = .ok (.if_icmp .ge 31, 3) := by decide +kernel
theorem dX12_doLine_215 : decode cX12_doLine 215 = .ok (.aload_n 0, 1) := by decide +kernel
theorem dX12_doLine_216 : decode cX12_doLine 216 = .ok (.getfield 7, 3) := by decide +kernel
theorem dX12_doLine_219 : decode cX12_doLine 219 = .ok (.iload 7, 2) := by decide +kernel
theorem dX12_doLine_221 : decode cX12_doLine 221 = .ok (.iaload, 1) := by decide +kernel
theorem dX12_doLine_222 : decode cX12_doLine 222 = .ok (.iload 5, 2) := by decide +kernel
theorem dX12_doLine_224 : decode cX12_doLine 224 = .ok (.if_icmp .ne 13, 3) := by decide +kernel
theorem dX12_doLine_227 : decode cX12_doLine 227 = .ok (.aload_n 0, 1) := by decide +kernel
theorem dX12_doLine_228 : decode cX12_doLine 228 = .ok (.getfield 16, 3) := by decide +kernel
theorem dX12_doLine_231 : decode cX12_doLine 231 = .ok (.iload 7, 2) := by decide +kernel
theorem dX12_doLine_233 : decode cX12_doLine 233 = .ok (.iaload, 1) := by decide +kernel
theorem dX12_doLine_234 : decode cX12_doLine 234 = .ok (.ifCond .eq 9, 3) := by decide +kernel
theorem dX12_doLine_237 : decode cX12_doLine 237 = .ok (.iinc 7 1, 3) := by decide +kernel
theorem dX12_doLine_240 : decode cX12_doLine 240 = .ok (.goto (-34), 3) := by decide +kernel
theorem dX12_doLine_243 : decode cX12_doLine 243 = .ok (.iload 7, 2) := by decide +kernel
theorem dX12_doLine_245 : decode cX12_doLine 245 = .ok (.aload_n 0, 1) := by decide +kernel
theorem dX12_doLine_246 : decode cX12_doLine 246 = .ok (.getfield 153, 3) := by decide +kernel
theorem dX12_doLine_249 : decode cX12_doLine 249 = .ok (.if_icmp .ne 14, 3) := by decide +kernel
theorem dX12_doLine_252 : decode cX12_doLine 252 = .ok (.aload_n 0, 1) := by decide +kernel
theorem dX12_doLine_253 : decode cX12_doLine 253 = .ok (.bipush 7, 2) := by decide +kernel
theorem dX12_doLine_255 : decode cX12_doLine 255 = .ok (.iload_n 2, 1) := by decide +kernel
theorem dX12_doLine_256 : decode cX12_doLine 256 = .ok (.iconst (-1), 1) := by decide +kernel
theorem dX12_doLine_257 : decode cX12_doLine 257 = .ok (.invokevirtual 330, 3) := by decide +kernel
theorem dX12_doLine_260 : decode cX12_doLine 260 = .ok (.goto 223, 3) := by decide +kernel
theorem dX12_doLine_263 : decode cX12_doLine 263 = .ok (.aload_n 0, 1) := by decide +kernel
theorem dX12_doLine_264 : decode cX12_doLine 264 = .ok (.getfield 84, 3) := by decide +kernel
theorem dX12_doLine_267 : decode cX12_doLine 267 = .ok (.iload 6, 2) := by decide +kernel
theorem dX12_doLine_269 : decode cX12_doLine 269 = .ok (.iload 4, 2) := by decide +kernel
theorem dX12_doLine_271 : decode cX12_doLine 271 = .ok (.iadd, 1) := by decide +kernel
theorem dX12_doLine_272 : decode cX12_doLine 272 = .ok (.aload_n 0, 1) := by decide +kernel
theorem dX12_doLine_273 : decode cX12_doLine 273 = .ok (.iload 7, 2) := by decide +kernel
theorem dX12_doLine_275 : decode cX12_doLine 275 = .ok (.iconst 0, 1) := by decide +kernel
theorem dX12_doLine_276 : decode cX12_doLine 276 = .ok (.iconst (-1), 1) := by decide +kernel
theorem dX12_doLine_277 : decode cX12_doLine 277 = .ok (.invokevirtual 333, 3) := by decide +kernel
theorem dX12_doLine_280 : decode cX12_doLine 280 = .ok (.iastore, 1) := by decide +kernel
theorem dX12_doLine_281 : decode cX12_doLine 281 = .ok (.goto 202, 3) := by decide +kernel
theorem dX12_doLine_284 : decode cX12_doLine 284 = .ok (.aload_n 0, 1) := by decide +kernel
theorem dX12_doLine_285 : decode cX12_doLine 285 = .ok (.iload_n 3, 1) := by decide +kernel
theorem dX12_doLine_286 : decode cX12_doLine 286 = .ok (.iload_n 2, 1) := by decide +kernel
theorem dX12_doLine_287 : decode cX12_doLine 287 = .ok (.aload_n 0, 1) := by decide +kernel
theorem dX12_doLine_288 : decode cX12_doLine 288 = .ok (.getfield 84, 3) := by decide +kernel
theorem dX12_doLine_291 : decode cX12_doLine 291 = .ok (.iload 6, 2) := by decide +kernel
theorem dX12_doLine_293 : decode cX12_doLine 293 = .ok (.iload 4, 2) := by decide +kernel
theorem dX12_doLine_295 : decode cX12_doLine 295 = .ok (.iadd, 1) := by decide +kernel
theorem dX12_doLine_296 : decode cX12_doLine 296 = .ok (.iaload, 1) := by decide +kernel
theorem dX12_doLine_297 : decode cX12_doLine 297 = .ok (.iload 5, 2) := by decide +kernel
theorem dX12_doLine_299 : decode cX12_doLine 299 = .ok (.iload 6, 2) := by decide +kernel
theorem dX12_doLine_301 : decode cX12_doLine 301 = .ok (.invokevirtual 339, 3) := by decide +kernel
theorem dX12_doLine_304 : decode cX12_doLine 304 = .ok (.goto 179, 3) := by decide +kernel
theorem dX12_doLine_307 : decode cX12_doLine 307 = .ok (.aload_n 0, 1) := by decide +kernel
theorem dX12_doLine_308 : decode cX12_doLine 308 = .ok (.getfield 223, 3) := by decide +kernel
theorem dX12_doLine_311 : decode cX12_doLine 311 = .ok (.bipush 10, 2) := by decide +kernel
theorem dX12_doLine_313 : decode cX12_doLine 313 = .ok (.if_icmp .ne 14, 3) := by decide +kernel
theorem dX12_doLine_316 : decode cX12_doLine 316 = .ok (.aload_n 0, 1) := by decide +kernel
theorem dX12_doLine_317 : decode cX12_doLine 317 = .ok (.bipush 8, 2) := by decide +kernel
theorem dX12_doLine_319 : decode cX12_doLine 319 = .ok (.iload_n 2, 1) := by decide +kernel
theorem dX12_doLine_320 : decode cX12_doLine 320 = .ok (.iconst (-1), 1) := by decide +kernel
theorem dX12_doLine_321 : decode cX12_doLine 321 = .ok (.invokevirtual 330, 3) := by decide +kernel
theorem dX12_doLine_324 : decode cX12_doLine 324 = .ok (.goto 159, 3) := by decide +kernel
theorem dX12_doLine_327 : decode cX12_doLine 327 = .ok (.aload_n 0, 1) := by decide +kernel
theorem dX12_doLine_328 : decode cX12_doLine 328 = .ok (.getfield 84, 3) := by decide +kernel
theorem dX12_doLine_331 : decode cX12_doLine 331 = .ok (.iload 6, 2) := by decide +kernel
theorem dX12_doLine_333 : decode cX12_doLine 333 = .ok (.iload 5, 2) := by decide +kernel
theorem dX12_doLine_335 : decode cX12_doLine 335 = .ok (.iadd, 1) := by decide +kernel
theorem dX12_doLine_336 : decode cX12_doLine 336 = .ok (.iaload, 1) := by decide +kernel
theorem dX12_doLine_337 : decode cX12_doLine 337 = .ok (.istore 7, 2) := by decide +kernel
theorem dX12_doLine_339 : decode cX12_doLine 339 = .ok (.aload_n 0, 1) := by decide +kernel
theorem dX12_doLine_340 : decode cX12_doLine 340 = .ok (.iload 4, 2) := by decide +kernel
theorem dX12_doLine_342 : decode cX12_doLine 342 = .ok (.invokevirtual 180, 3) := by decide +kernel
theorem dX12_doLine_345 : decode cX12_doLine 345 = .ok (.ifCond .ne 7, 3) := by decide +kernel
theorem dX12_doLine_348 : decode cX12_doLine 348 = .ok (.iconst 1, 1) := by decide +kernel
theorem dX12_doLine_349 : decode cX12_doLine 349 = .ok (.goto 4, 3) := by decide +kernel
theorem dX12_doLine_352 : decode cX12_doLine 352 = .ok (.iconst 0, 1) := by decide +kernel
theorem dX12_doLine_353 : decode cX12_doLine 353 = .ok (.istore 8, 2) := by decide +kernel
theorem dX12_doLine_355 : decode cX12_doLine 355 = .ok (.iload 8, 2) := by decide +kernel
theorem dX12_doLine_357 : decode cX12_doLine 357 = .ok (.ifCond .eq 23, 3) := by decide +kernel
theorem dX12_doLine_360 : decode cX12_doLine 360 = .ok (.aload_n 0, 1) := by decide +kernel
theorem dX12_doLine_361 : decode cX12_doLine 361 = .ok (.iload 4, 2) := by decide +kernel
theorem dX12_doLine_363 : decode cX12_doLine 363 = .ok (.invokevirtual 209, 3) := by decide +kernel
theorem dX12_doLine_366 : decode cX12_doLine 366 = .ok (.aload_n 0, 1) := by decide +kernel
theorem dX12_doLine_367 : decode cX12_doLine 367 = .ok (.getfield 196, 3) := by decide +kernel
theorem dX12_doLine_370 : decode cX12_doLine 370 = .ok (.ifCond .ne 7, 3) := by decide +kernel
theorem dX12_doLine_373 : decode cX12_doLine 373 = .ok (.iconst 1, 1) := by decide +kernel
theorem dX12_doLine_374 : decode cX12_doLine 374 = .ok (.goto 4, 3) := by decide +kernel
theorem dX12_doLine_377 : decode cX12_doLine 377 = .ok (.iconst 0, 1) := by decide +kernel
theorem dX12_doLine_378 : decode cX12_doLine 378 = .ok (.istore 8, 2) := by decide +kernel
theorem dX12_doLine_380 : decode cX12_doLine 380 = .ok (.iload 8, 2) := by decide +kernel
theorem dX12_doLine_382 : decode cX12_doLine 382 = .ok (.ifCond .eq 14, 3) := by decide +kernel
theorem dX12_doLine_385 : decode cX12_doLine 385 = .ok (.aload_n 0, 1) := by decide +kernel
theorem dX12_doLine_386 : decode cX12_doLine 386 = .ok (.iload 4, 2) := by decide +kernel
theorem dX12_doLine_388 : decode cX12_doLine 388 = .ok (.iload 7, 2) := by decide +kernel
theorem dX12_doLine_390 : decode cX12_doLine 390 = .ok (.invokevirtual 343, 3) := by decide +kernel
theorem dX12_doLine_393 : decode cX12_doLine 393 = .ok (.goto 10, 3) := by decide +kernel
theorem dX12_doLine_396 : decode cX12_doLine 396 = .ok (.aload_n 0, 1) := by decide +kernel
theorem dX12_doLine_397 : decode cX12_doLine 397 = .ok (.iconst 4, 1) := by decide +kernel
theorem dX12_doLine_398 : decode cX12_doLine 398 = .ok (.iload_n 2, 1) := by decide +kernel
theorem dX12_doLine_399 : decode cX12_doLine 399 = .ok (.iconst (-1), 1) := by decide +kernel
theorem dX12_doLine_400 : decode cX12_doLine 400 = .ok (.invokevirtual 330, 3) := by decide +kernel
theorem dX12_doLine_403 : decode cX12_doLine 403 = .ok (.goto 80, 3) := by decide +kernel
theorem dX12_doLine_406 : decode cX12_doLine 406 = .ok (.aload_n 0, 1) := by decide +kernel
theorem dX12_doLine_407 : decode cX12_doLine 407 = .ok (.iload 4, 2) := by decide +kernel
theorem dX12_doLine_409 : decode cX12_doLine 409 = .ok (.iload_n 2, 1) := by decide +kernel
theorem dX12_doLine_410 : decode cX12_doLine 410 = .ok (.iconst (-1), 1) := by decide +kernel
theorem dX12_doLine_411 : decode cX12_doLine 411 = .ok (.invokevirtual 330, 3) := by decide +kernel
theorem dX12_doLine_414 : decode cX12_doLine 414 = .ok (.goto 69, 3) := by decide +kernel
theorem dX12_doLine_417 : decode cX12_doLine 417 = .ok (.aload_n 0, 1) := by decide +kernel
theorem dX12_doLine_418 : decode cX12_doLine 418 = .ok (.iconst 1, 1) := by decide +kernel
theorem dX12_doLine_419 : decode cX12_doLine 419 = .ok (.putfield 255, 3) := by decide +kernel
theorem dX12_doLine_422 : decode cX12_doLine 422 = .ok (.goto 61, 3) := by decide +kernel
theorem dX12_doLine_425 : decode cX12_doLine 425 = .ok (.aload_n 0, 1) := by decide +kernel
theorem dX12_doLine_426 : decode cX12_doLine 426 = .ok (.iconst 2, 1) := by decide +kernel
theorem dX12_doLine_427 : decode cX12_doLine 427 = .ok (.putfield 255, 3) := by decide +kernel
theorem dX12_doLine_430 : decode cX12_doLine 430 = .ok (.goto 53, 3) := by decide +kernel
theorem dX12_doLine_433 : decode cX12_doLine 433 = .ok (.iload 4, 2) := by decide +kernel
theorem dX12_doLine_435 : decode cX12_doLine 435 = .ok (.ifCond .ne 18, 3) := by decide +kernel
theorem dX12_doLine_438 : decode cX12_doLine 438 = .ok (.aload_n 0, 1) := by decide +kernel
theorem dX12_doLine_439 : decode cX12_doLine 439 = .ok (.aload_n 0, 1) := by decide +kernel
theorem dX12_doLine_440 : decode cX12_doLine 440 = .ok (.iload_n 1, 1) := by decide +kernel
theorem dX12_doLine_441 : decode cX12_doLine 441 = .ok (.iload_n 2, 1) := by decide +kernel
theorem dX12_doLine_442 : decode cX12_doLine 442 = .ok (.invokevirtual 297, 3) := by decide +kernel
theorem dX12_doLine_445 : decode cX12_doLine 445 = .ok (.iconst 1, 1) := by decide +kernel
theorem dX12_doLine_446 : decode cX12_doLine 446 = .ok (.iadd, 1) := by decide +kernel
theorem dX12_doLine_447 : decode cX12_doLine 447 = .ok (.invokevirtual 230, 3) := by decide +kernel
theorem dX12_doLine_450 : decode cX12_doLine 450 = .ok (.goto 33, 3) := by decide +kernel
theorem dX12_doLine_453 : decode cX12_doLine 453 = .ok (.aload_n 0, 1) := by decide +kernel
theorem dX12_doLine_454 : decode cX12_doLine 454 = .ok (.bipush 11, 2) := by decide +kernel
theorem dX12_doLine_456 : decode cX12_doLine 456 = .ok (.iload_n 2, 1) := by decide +kernel
theorem dX12_doLine_457 : decode cX12_doLine 457 = .ok (.iload 4, 2) := by decide +kernel
theorem dX12_doLine_459 : decode cX12_doLine 459 = .ok (.iconst 1, 1) := by decide +kernel
theorem dX12_doLine_460 : decode cX12_doLine 460 = .ok (.isub, 1) := by decide +kernel
theorem dX12_doLine_461 : decode cX12_doLine 461 = .ok (.invokevirtual 226, 3) := by decide +kernel
theorem dX12_doLine_464 : decode cX12_doLine 464 = .ok (.goto 19, 3) := by decide +kernel
theorem dX12_doLine_467 : decode cX12_doLine 467 = .ok (.aload_n 0, 1) := by decide +kernel
theorem dX12_doLine_468 : decode cX12_doLine 468 = .ok (.iload_n 2, 1) := by decide +kernel
theorem dX12_doLine_469 : decode cX12_doLine 469 = .ok (.invokevirtual 233, 3) := by decide +kernel
theorem dX12_doLine_472 : decode cX12_doLine 472 = .ok (.goto 11, 3) := by decide +kernel
theorem dX12_doLine_475 : decode cX12_doLine 475 = .ok (.aload_n 0, 1) := by decide +kernel
theorem dX12_doLine_476 : decode cX12_doLine 476 = .ok (.bipush 13, 2) := by decide +kernel
theorem dX12_doLine_478 : decode cX12_doLine 478 = .ok (.iload_n 2, 1) := by decide +kernel
theorem dX12_doLine_479 : decode cX12_doLine 479 = .ok (.iconst 0, 1) := by decide +kernel
theorem dX12_doLine_480 : decode cX12_doLine 480 = .ok (.invokevirtual 226, 3) := by decide +kernel
theorem dX12_doLine_483 : decode cX12_doLine 483 = .ok (.return_, 1) := by decide +kernel
theorem dX12_doSlot_0 : decode cX12_doSlot 0 = .ok (.iload_n 3, 1) := by decide +kernel
theorem dX12_doSlot_1 : decode cX12_doSlot 1 = .ok (.ifCond .lt 12, 3) := by decide +kernel
theorem dX12_doSlot_4 : decode cX12_doSlot 4 = .ok (.aload_n 0, 1) := by decide +kernel
theorem dX12_doSlot_5 : decode cX12_doSlot 5 = .ok (.getfield 102, 3) := by decide +kernel
theorem dX12_doSlot_8 : decode cX12_doSlot 8 = .ok (.iload_n 3, 1) := by decide +kernel
theorem dX12_doSlot_9 : decode cX12_doSlot 9 = .ok (.baload, 1) := by decide +kernel
theorem dX12_doSlot_10 : decode cX12_doSlot 10 = .ok (.ifCond .ne 24, 3) := by decide +kernel
theorem dX12_doSlot_13 : decode cX12_doSlot 13 = .ok (.aload_n 0, 1) := by decide +kernel
theorem dX12_doSlot_14 : decode cX12_doSlot 14 = .ok (.iconst 3, 1) := by decide +kernel
theorem dX12_doSlot_15 : decode cX12_doSlot 15 = .ok (.iload_n 2, 1) := by decide +kernel
theorem dX12_doSlot_16 : decode cX12_doSlot 16 = .ok (.iload_n 3, 1) := by decide +kernel
theorem dX12_doSlot_17 : decode cX12_doSlot 17 = .ok (.ifCond .ge 7, 3) := by decide +kernel
theorem dX12_doSlot_20 : decode cX12_doSlot 20 = .ok (.iconst (-1), 1) := by decide +kernel
theorem dX12_doSlot_21 : decode cX12_doSlot 21 = .ok (.goto 9, 3) := by decide +kernel
theorem dX12_doSlot_24 : decode cX12_doSlot 24 = .ok (.aload_n 0, 1) := by decide +kernel
theorem dX12_doSlot_25 : decode cX12_doSlot 25 = .ok (.getfield 87, 3) := by decide +kernel
theorem dX12_doSlot_28 : decode cX12_doSlot 28 = .ok (.iload_n 3, 1) := by decide +kernel
theorem dX12_doSlot_29 : decode cX12_doSlot 29 = .ok (.iaload, 1) := by decide +kernel
theorem dX12_doSlot_30 : decode cX12_doSlot 30 = .ok (.invokevirtual 330, 3) := by decide +kernel
theorem dX12_doSlot_33 : decode cX12_doSlot 33 = .ok (.return_, 1) := by decide +kernel
theorem dX12_doSlot_34 : decode cX12_doSlot 34 = .ok (.aload_n 0, 1) := by decide +kernel
theorem dX12_doSlot_35 : decode cX12_doSlot 35 = .ok (.getfield 87, 3) := by decide +kernel
theorem dX12_doSlot_38 : decode cX12_doSlot 38 = .ok (.iload_n 3, 1) := by decide +kernel
theorem dX12_doSlot_39 : decode cX12_doSlot 39 = .ok (.iaload, 1) := by decide +kernel
theorem dX12_doSlot_40 : decode cX12_doSlot 40 = .ok (.istore 6, 2) := by decide +kernel
theorem dX12_doSlot_42 : decode cX12_doSlot 42 = .ok (.iload_n 1, 1) := by decide +kernel
theorem dX12_doSlot_43 : decode cX12_doSlot 43 = .ok (.iconst 4, 1) := by decide +kernel
theorem dX12_doSlot_44 : decode cX12_doSlot 44 = .ok (.if_icmp .ne 24, 3) := by decide +kernel
theorem dX12_doSlot_47 : decode cX12_doSlot 47 = .ok (.aload_n 0, 1) := by decide +kernel
theorem dX12_doSlot_48 : decode cX12_doSlot 48 = .ok (.iload_n 3, 1) := by decide +kernel
theorem dX12_doSlot_49 : decode cX12_doSlot 49 = .ok (.iconst 0, 1) := by decide +kernel
theorem dX12_doSlot_50 : decode cX12_doSlot 50 = .ok (.invokevirtual 278, 3) := by decide +kernel
theorem dX12_doSlot_53 : decode cX12_doSlot 53 = .ok (.ifCond .eq 149, 3) := by decide +kernel
theorem dX12_doSlot_56 : decode cX12_doSlot 56 = .ok (.aload_n 0, 1) := by decide +kernel
theorem dX12_doSlot_57 : decode cX12_doSlot 57 = .ok (.bipush 6, 2) := by decide +kernel
theorem dX12_doSlot_59 : decode cX12_doSlot 59 = .ok (.iload_n 2, 1) := by decide +kernel
theorem dX12_doSlot_60 : decode cX12_doSlot 60 = .ok (.iload 6, 2) := by decide +kernel
theorem dX12_doSlot_62 : decode cX12_doSlot 62 = .ok (.invokevirtual 330, 3) := by decide +kernel
theorem dX12_doSlot_65 : decode cX12_doSlot 65 = .ok (.goto 137, 3) := by decide +kernel
theorem dX12_doSlot_68 : decode cX12_doSlot 68 = .ok (.iload_n 1, 1) := by decide +kernel
theorem dX12_doSlot_69 : decode cX12_doSlot 69 = .ok (.bipush 6, 2) := by decide +kernel
theorem dX12_doSlot_71 : decode cX12_doSlot 71 = .ok (.if_icmp .ne 68, 3) := by decide +kernel
theorem dX12_doSlot_74 : decode cX12_doSlot 74 = .ok (.aload_n 0, 1) := by decide +kernel
theorem dX12_doSlot_75 : decode cX12_doSlot 75 = .ok (.iload 4, 2) := by decide +kernel
theorem dX12_doSlot_77 : decode cX12_doSlot 77 = .ok (.invokevirtual 321, 3) := by decide +kernel
theorem dX12_doSlot_80 : decode cX12_doSlot 80 = .ok (.istore 7, 2) := by decide +kernel
theorem dX12_doSlot_82 : decode cX12_doSlot 82 = .ok (.iload 7, 2) := by decide +kernel
theorem dX12_doSlot_84 : decode cX12_doSlot 84 = .ok (.ifCond .lt 13, 3) := by decide +kernel
theorem dX12_doSlot_87 : decode cX12_doSlot 87 = .ok (.aload_n 0, 1) := by decide +kernel
theorem dX12_doSlot_88 : decode cX12_doSlot 88 = .ok (.getfield 90, 3) := by decide +kernel
theorem dX12_doSlot_91 : decode cX12_doSlot 91 = .ok (.iload_n 3, 1) := by decide +kernel
theorem dX12_doSlot_92 : decode cX12_doSlot 92 = .ok (.iaload, 1) := by decide +kernel
theorem dX12_doSlot_93 : decode cX12_doSlot 93 = .ok (.iconst 1, 1) := by decide +kernel
theorem dX12_doSlot_94 : decode cX12_doSlot 94 = .ok (.if_icmp .ne 14, 3) := by decide +kernel
theorem dX12_doSlot_97 : decode cX12_doSlot 97 = .ok (.aload_n 0, 1) := by decide +kernel
theorem dX12_doSlot_98 : decode cX12_doSlot 98 = .ok (.iconst 4, 1) := by decide +kernel
theorem dX12_doSlot_99 : decode cX12_doSlot 99 = .ok (.iload_n 2, 1) := by decide +kernel
theorem dX12_doSlot_100 : decode cX12_doSlot 100 = .ok (.iload 6, 2) := by decide +kernel
theorem dX12_doSlot_102 : decode cX12_doSlot 102 = .ok (.invokevirtual 330, 3) := by decide +kernel
theorem dX12_doSlot_105 : decode cX12_doSlot 105 = .ok (.goto 31, 3) := by decide +kernel
theorem dX12_doSlot_108 : decode cX12_doSlot 108 = .ok (.aload_n 0, 1) := by decide +kernel
theorem dX12_doSlot_109 : decode cX12_doSlot 109 = .ok (.getfield 96, 3) := by decide +kernel
theorem dX12_doSlot_112 : decode cX12_doSlot 112 = .ok (.iload_n 3, 1) := by decide +kernel
theorem dX12_doSlot_113 : decode cX12_doSlot 113 = .ok (.iload 7, 2) := by decide +kernel
theorem dX12_doSlot_115 : decode cX12_doSlot 115 = .ok (.iastore, 1) := by decide +kernel
theorem dX12_doSlot_116 : decode cX12_doSlot 116 = .ok (.aload_n 0, 1) := by decide +kernel
theorem dX12_doSlot_117 : decode cX12_doSlot 117 = .ok (.getfield 99, 3) := by decide +kernel
theorem dX12_doSlot_120 : decode cX12_doSlot 120 = .ok (.iload_n 3, 1) := by decide +kernel
theorem dX12_doSlot_121 : decode cX12_doSlot 121 = .ok (.aload_n 0, 1) := by decide +kernel
theorem dX12_doSlot_122 : decode cX12_doSlot 122 = .ok (.getfield 324, 3) := by decide +kernel
theorem dX12_doSlot_125 : decode cX12_doSlot 125 = .ok (.iastore, 1) := by decide +kernel
theorem dX12_doSlot_126 : decode cX12_doSlot 126 = .ok (.aload_n 0, 1) := by decide +kernel
theorem dX12_doSlot_127 : decode cX12_doSlot 127 = .ok (.dup, 1) := by decide +kernel
theorem dX12_doSlot_128 : decode cX12_doSlot 128 = .ok (.getfield 324, 3) := by decide +kernel
theorem dX12_doSlot_131 : decode cX12_doSlot 131 = .ok (.iconst 1, 1) := by decide +kernel
theorem dX12_doSlot_132 : decode cX12_doSlot 132 = .ok (.iadd, 1) := by decide +kernel
theorem dX12_doSlot_133 : decode cX12_doSlot 133 = .ok (.putfield 324, 3) := by decide +kernel
theorem dX12_doSlot_136 : decode cX12_doSlot 136 = .ok (.goto 66, 3) := by decide +kernel
theorem dX12_doSlot_139 : decode cX12_doSlot 139 = .ok (.aload_n 0, 1) := by decide +kernel
theorem dX12_doSlot_140 : decode cX12_doSlot 140 = .ok (.iload_n 3, 1) := by decide +kernel
theorem dX12_doSlot_141 : decode cX12_doSlot 141 = .ok (.invokevirtual 347, 3) := by decide +kernel
theorem dX12_doSlot_144 : decode cX12_doSlot 144 = .ok (.ifCond .eq 14, 3) := by decide +kernel
theorem dX12_doSlot_147 : decode cX12_doSlot 147 = .ok (.aload_n 0, 1) := by decide +kernel
theorem dX12_doSlot_148 : decode cX12_doSlot 148 = .ok (.iconst 2, 1) := by decide +kernel
theorem dX12_doSlot_149 : decode cX12_doSlot 149 = .ok (.iload_n 2, 1) := by decide +kernel
theorem dX12_doSlot_150 : decode cX12_doSlot 150 = .ok (.iload 6, 2) := by decide +kernel
theorem dX12_doSlot_152 : decode cX12_doSlot 152 = .ok (.invokevirtual 330, 3) := by decide +kernel
theorem dX12_doSlot_155 : decode cX12_doSlot 155 = .ok (.goto 47, 3) := by decide +kernel
theorem dX12_doSlot_158 : decode cX12_doSlot 158 = .ok (.iload_n 1, 1) := by decide +kernel
theorem dX12_doSlot_159 : decode cX12_doSlot 159 = .ok (.iconst 5, 1) := by decide +kernel
theorem dX12_doSlot_160 : decode cX12_doSlot 160 = .ok (.if_icmp .ne 24, 3) := by decide +kernel
theorem dX12_doSlot_163 : decode cX12_doSlot 163 = .ok (.aload_n 0, 1) := by decide +kernel
theorem dX12_doSlot_164 : decode cX12_doSlot 164 = .ok (.getfield 84, 3) := by decide +kernel
theorem dX12_doSlot_167 : decode cX12_doSlot 167 = .ok (.iload 5, 2) := by decide +kernel
theorem dX12_doSlot_169 : decode cX12_doSlot 169 = .ok (.iload 4, 2) := by decide +kernel
theorem dX12_doSlot_171 : decode cX12_doSlot 171 = .ok (.iadd, 1) := by decide +kernel
theorem dX12_doSlot_172 : decode cX12_doSlot 172 = .ok (.aload_n 0, 1) := by decide +kernel
theorem dX12_doSlot_173 : decode cX12_doSlot 173 = .ok (.iload 6, 2) := by decide +kernel
theorem dX12_doSlot_175 : decode cX12_doSlot 175 = .ok (.iconst 2, 1) := by decide +kernel
theorem dX12_doSlot_176 : decode cX12_doSlot 176 = .ok (.iload_n 3, 1) := by decide +kernel
theorem dX12_doSlot_177 : decode cX12_doSlot 177 = .ok (.invokevirtual 333, 3) := by decide +kernel
theorem dX12_doSlot_180 : decode cX12_doSlot 180 = .ok (.iastore, 1) := by decide +kernel
theorem dX12_doSlot_181 : decode cX12_doSlot 181 = .ok (.goto 21, 3) := by decide +kernel
theorem dX12_doSlot_184 : decode cX12_doSlot 184 = .ok (.aload_n 0, 1) := by decide +kernel
theorem dX12_doSlot_185 : decode cX12_doSlot 185 = .ok (.iload 6, 2) := by decide +kernel
theorem dX12_doSlot_187 : decode cX12_doSlot 187 = .ok (.iconst 0, 1) := by decide +kernel
theorem dX12_doSlot_188 : decode cX12_doSlot 188 = .ok (.invokevirtual 170, 3) := by decide +kernel
theorem dX12_doSlot_191 : decode cX12_doSlot 191 = .ok (.ifCond .eq 11, 3) := by decide +kernel
theorem dX12_doSlot_194 : decode cX12_doSlot 194 = .ok (.aload_n 0, 1) := by decide +kernel
theorem dX12_doSlot_195 : decode cX12_doSlot 195 = .ok (.iconst 5, 1) := by decide +kernel
theorem dX12_doSlot_196 : decode cX12_doSlot 196 = .ok (.iload_n 2, 1) := by decide +kernel
theorem dX12_doSlot_197 : decode cX12_doSlot 197 = .ok (.iload 6, 2) := by decide +kernel
theorem dX12_doSlot_199 : decode cX12_doSlot 199 = .ok (.invokevirtual 330, 3) := by decide +kernel
theorem dX12_doSlot_202 : decode cX12_doSlot 202 = .ok (.return_, 1) := by decide +kernel
theorem dX12_goOn_0 : decode cX12_goOn 0 = .ok (.aload_n 0, 1) := by decide +kernel
theorem dX12_goOn_1 : decode cX12_goOn 1 = .ok (.getfield 72, 3) := by decide +kernel
theorem dX12_goOn_4 : decode cX12_goOn 4 = .ok (.aload_n 0, 1) := by decide +kernel
theorem dX12_goOn_5 : decode cX12_goOn 5 = .ok (.getfield 220, 3) := by decide +kernel
theorem dX12_goOn_8 : decode cX12_goOn 8 = .ok (.iaload, 1) := by decide +kernel
theorem dX12_goOn_9 : decode cX12_goOn 9 = .ok (.istore_n 1, 1) := by decide +kernel
theorem dX12_goOn_10 : decode cX12_goOn 10 = .ok (.aload_n 0, 1) := by decide +kernel
theorem dX12_goOn_11 : decode cX12_goOn 11 = .ok (.getfield 78, 3) := by decide +kernel
theorem dX12_goOn_14 : decode cX12_goOn 14 = .ok (.aload_n 0, 1) := by decide +kernel
theorem dX12_goOn_15 : decode cX12_goOn 15 = .ok (.getfield 220, 3) := by decide +kernel
theorem dX12_goOn_18 : decode cX12_goOn 18 = .ok (.iaload, 1) := by decide +kernel
theorem dX12_goOn_19 : decode cX12_goOn 19 = .ok (.istore_n 2, 1) := by decide +kernel
theorem dX12_goOn_20 : decode cX12_goOn 20 = .ok (.iload_n 2, 1) := by decide +kernel
theorem dX12_goOn_21 : decode cX12_goOn 21 = .ok (.aload_n 0, 1) := by decide +kernel
theorem dX12_goOn_22 : decode cX12_goOn 22 = .ok (.getfield 47, 3) := by decide +kernel
theorem dX12_goOn_25 : decode cX12_goOn 25 = .ok (.iload_n 1, 1) := by decide +kernel
theorem dX12_goOn_26 : decode cX12_goOn 26 = .ok (.iaload, 1) := by decide +kernel
theorem dX12_goOn_27 : decode cX12_goOn 27 = .ok (.if_icmp .ne 9, 3) := by decide +kernel
theorem dX12_goOn_30 : decode cX12_goOn 30 = .ok (.aload_n 0, 1) := by decide +kernel
theorem dX12_goOn_31 : decode cX12_goOn 31 = .ok (.iconst 1, 1) := by decide +kernel
theorem dX12_goOn_32 : decode cX12_goOn 32 = .ok (.putfield 255, 3) := by decide +kernel
theorem dX12_goOn_35 : decode cX12_goOn 35 = .ok (.return_, 1) := by decide +kernel
theorem dX12_goOn_36 : decode cX12_goOn 36 = .ok (.aload_n 0, 1) := by decide +kernel
theorem dX12_goOn_37 : decode cX12_goOn 37 = .ok (.getfield 50, 3) := by decide +kernel
theorem dX12_goOn_40 : decode cX12_goOn 40 = .ok (.bipush 40, 2) := by decide +kernel
theorem dX12_goOn_42 : decode cX12_goOn 42 = .ok (.iload_n 1, 1) := by decide +kernel
theorem dX12_goOn_43 : decode cX12_goOn 43 = .ok (.imul, 1) := by decide +kernel
theorem dX12_goOn_44 : decode cX12_goOn 44 = .ok (.iload_n 2, 1) := by decide +kernel
theorem dX12_goOn_45 : decode cX12_goOn 45 = .ok (.iadd, 1) := by decide +kernel
theorem dX12_goOn_46 : decode cX12_goOn 46 = .ok (.iaload, 1) := by decide +kernel
theorem dX12_goOn_47 : decode cX12_goOn 47 = .ok (.istore_n 3, 1) := by decide +kernel
theorem dX12_goOn_48 : decode cX12_goOn 48 = .ok (.iload_n 3, 1) := by decide +kernel
theorem dX12_goOn_49 : decode cX12_goOn 49 = .ok (.bipush 16, 2) := by decide +kernel
theorem dX12_goOn_51 : decode cX12_goOn 51 = .ok (.if_icmp .ne 11, 3) := by decide +kernel
theorem dX12_goOn_54 : decode cX12_goOn 54 = .ok (.aload_n 0, 1) := by decide +kernel
theorem dX12_goOn_55 : decode cX12_goOn 55 = .ok (.iload_n 2, 1) := by decide +kernel
theorem dX12_goOn_56 : decode cX12_goOn 56 = .ok (.invokevirtual 350, 3) := by decide +kernel
theorem dX12_goOn_59 : decode cX12_goOn 59 = .ok (.goto 45, 3) := by decide +kernel
theorem dX12_goOn_62 : decode cX12_goOn 62 = .ok (.iload_n 3, 1) := by decide +kernel
theorem dX12_goOn_63 : decode cX12_goOn 63 = .ok (.bipush 14, 2) := by decide +kernel
theorem dX12_goOn_65 : decode cX12_goOn 65 = .ok (.if_icmp .eq 9, 3) := by decide +kernel
theorem dX12_goOn_68 : decode cX12_goOn 68 = .ok (.iload_n 3, 1) := by decide +kernel
theorem dX12_goOn_69 : decode cX12_goOn 69 = .ok (.bipush 15, 2) := by decide +kernel
theorem dX12_goOn_71 : decode cX12_goOn 71 = .ok (.if_icmp .ne 10, 3) := by decide +kernel
theorem dX12_goOn_74 : decode cX12_goOn 74 = .ok (.aload_n 0, 1) := by decide +kernel
theorem dX12_goOn_75 : decode cX12_goOn 75 = .ok (.invokevirtual 306, 3) := by decide +kernel
theorem dX12_goOn_78 : decode cX12_goOn 78 = .ok (.goto 26, 3) := by decide +kernel
theorem dX12_goOn_81 : decode cX12_goOn 81 = .ok (.aload_n 0, 1) := by decide +kernel
theorem dX12_goOn_82 : decode cX12_goOn 82 = .ok (.invokevirtual 293, 3) := by decide +kernel
theorem dX12_goOn_85 : decode cX12_goOn 85 = .ok (.ifCond .eq 19, 3) := by decide +kernel
theorem dX12_goOn_88 : decode cX12_goOn 88 = .ok (.aload_n 0, 1) := by decide +kernel
theorem dX12_goOn_89 : decode cX12_goOn 89 = .ok (.getfield 81, 3) := by decide +kernel
theorem dX12_goOn_92 : decode cX12_goOn 92 = .ok (.aload_n 0, 1) := by decide +kernel
theorem dX12_goOn_93 : decode cX12_goOn 93 = .ok (.getfield 220, 3) := by decide +kernel
theorem dX12_goOn_96 : decode cX12_goOn 96 = .ok (.iload_n 2, 1) := by decide +kernel
theorem dX12_goOn_97 : decode cX12_goOn 97 = .ok (.iastore, 1) := by decide +kernel
theorem dX12_goOn_98 : decode cX12_goOn 98 = .ok (.aload_n 0, 1) := by decide +kernel
theorem dX12_goOn_99 : decode cX12_goOn 99 = .ok (.iload_n 1, 1) := by decide +kernel
theorem dX12_goOn_100 : decode cX12_goOn 100 = .ok (.iload_n 2, 1) := by decide +kernel
theorem dX12_goOn_101 : decode cX12_goOn 101 = .ok (.invokevirtual 353, 3) := by decide +kernel
theorem dX12_goOn_104 : decode cX12_goOn 104 = .ok (.return_, 1) := by decide +kernel
theorem dX12_endBlock_0 : decode cX12_endBlock 0 = .ok (.aload_n 0, 1) := by decide +kernel
theorem dX12_endBlock_1 : decode cX12_endBlock 1 = .ok (.getfield 217, 3) := by decide +kernel
theorem dX12_endBlock_4 : decode cX12_endBlock 4 = .ok (.iconst 1, 1) := by decide +kernel
theorem dX12_endBlock_5 : decode cX12_endBlock 5 = .ok (.isub, 1) := by decide +kernel
theorem dX12_endBlock_6 : decode cX12_endBlock 6 = .ok (.istore_n 2, 1) := by decide +kernel
theorem dX12_endBlock_7 : decode cX12_endBlock 7 = .ok (.aload_n 0, 1) := by decide +kernel
theorem dX12_endBlock_8 : decode cX12_endBlock 8 = .ok (.iload_n 1, 1) := by decide +kernel
theorem dX12_endBlock_9 : decode cX12_endBlock 9 = .ok (.iconst 1, 1) := by decide +kernel
theorem dX12_endBlock_10 : decode cX12_endBlock 10 = .ok (.iadd, 1) := by decide +kernel
theorem dX12_endBlock_11 : decode cX12_endBlock 11 = .ok (.invokevirtual 230, 3) := by decide +kernel
theorem dX12_endBlock_14 : decode cX12_endBlock 14 = .ok (.aload_n 0, 1) := by decide +kernel
theorem dX12_endBlock_15 : decode cX12_endBlock 15 = .ok (.getfield 66, 3) := by decide +kernel
theorem dX12_endBlock_18 : decode cX12_endBlock 18 = .ok (.iload_n 2, 1) := by decide +kernel
theorem dX12_endBlock_19 : decode cX12_endBlock 19 = .ok (.iaload, 1) := by decide +kernel
theorem dX12_endBlock_20 : decode cX12_endBlock 20 = .ok (.bipush 12, 2) := by decide +kernel
theorem dX12_endBlock_22 : decode cX12_endBlock 22 = .ok (.if_icmp .ne 10, 3) := by decide +kernel
theorem dX12_endBlock_25 : decode cX12_endBlock 25 = .ok (.aload_n 0, 1) := by decide +kernel
theorem dX12_endBlock_26 : decode cX12_endBlock 26 = .ok (.invokevirtual 309, 3) := by decide +kernel
theorem dX12_endBlock_29 : decode cX12_endBlock 29 = .ok (.goto 129, 3) := by decide +kernel
theorem dX12_endBlock_32 : decode cX12_endBlock 32 = .ok (.aload_n 0, 1) := by decide +kernel
theorem dX12_endBlock_33 : decode cX12_endBlock 33 = .ok (.getfield 66, 3) := by decide +kernel
theorem dX12_endBlock_36 : decode cX12_endBlock 36 = .ok (.iload_n 2, 1) := by decide +kernel
theorem dX12_endBlock_37 : decode cX12_endBlock 37 = .ok (.iaload, 1) := by decide +kernel
theorem dX12_endBlock_38 : decode cX12_endBlock 38 = .ok (.bipush 11, 2) := by decide +kernel
theorem dX12_endBlock_40 : decode cX12_endBlock 40 = .ok (.if_icmp .ne 57, 3) := by decide +kernel
theorem dX12_endBlock_43 : decode cX12_endBlock 43 = .ok (.aload_n 0, 1) := by decide +kernel
theorem dX12_endBlock_44 : decode cX12_endBlock 44 = .ok (.getfield 72, 3) := by decide +kernel
theorem dX12_endBlock_47 : decode cX12_endBlock 47 = .ok (.iload_n 2, 1) := by decide +kernel
theorem dX12_endBlock_48 : decode cX12_endBlock 48 = .ok (.iaload, 1) := by decide +kernel
theorem dX12_endBlock_49 : decode cX12_endBlock 49 = .ok (.ifCond .le 35, 3) := by decide +kernel
theorem dX12_endBlock_52 : decode cX12_endBlock 52 = .ok (.aload_n 0, 1) := by decide +kernel
theorem dX12_endBlock_53 : decode cX12_endBlock 53 = .ok (.getfield 72, 3) := by decide +kernel
theorem dX12_endBlock_56 : decode cX12_endBlock 56 = .ok (.iload_n 2, 1) := by decide +kernel
theorem dX12_endBlock_57 : decode cX12_endBlock 57 = .ok (.dup2, 1) := by decide +kernel
theorem dX12_endBlock_58 : decode cX12_endBlock 58 = .ok (.iaload, 1) := by decide +kernel
theorem dX12_endBlock_59 : decode cX12_endBlock 59 = .ok (.iconst 1, 1) := by decide +kernel
theorem dX12_endBlock_60 : decode cX12_endBlock 60 = .ok (.isub, 1) := by decide +kernel
theorem dX12_endBlock_61 : decode cX12_endBlock 61 = .ok (.iastore, 1) := by decide +kernel
theorem dX12_endBlock_62 : decode cX12_endBlock 62 = .ok (.aload_n 0, 1) := by decide +kernel
theorem dX12_endBlock_63 : decode cX12_endBlock 63 = .ok (.invokevirtual 293, 3) := by decide +kernel
theorem dX12_endBlock_66 : decode cX12_endBlock 66 = .ok (.ifCond .eq 92, 3) := by decide +kernel
theorem dX12_endBlock_69 : decode cX12_endBlock 69 = .ok (.aload_n 0, 1) := by decide +kernel
theorem dX12_endBlock_70 : decode cX12_endBlock 70 = .ok (.aload_n 0, 1) := by decide +kernel
theorem dX12_endBlock_71 : decode cX12_endBlock 71 = .ok (.getfield 69, 3) := by decide +kernel
theorem dX12_endBlock_74 : decode cX12_endBlock 74 = .ok (.iload_n 2, 1) := by decide +kernel
theorem dX12_endBlock_75 : decode cX12_endBlock 75 = .ok (.iaload, 1) := by decide +kernel
theorem dX12_endBlock_76 : decode cX12_endBlock 76 = .ok (.iconst 1, 1) := by decide +kernel
theorem dX12_endBlock_77 : decode cX12_endBlock 77 = .ok (.iadd, 1) := by decide +kernel
theorem dX12_endBlock_78 : decode cX12_endBlock 78 = .ok (.invokevirtual 230, 3) := by decide +kernel
theorem dX12_endBlock_81 : decode cX12_endBlock 81 = .ok (.goto 77, 3) := by decide +kernel
theorem dX12_endBlock_84 : decode cX12_endBlock 84 = .ok (.aload_n 0, 1) := by decide +kernel
theorem dX12_endBlock_85 : decode cX12_endBlock 85 = .ok (.dup, 1) := by decide +kernel
theorem dX12_endBlock_86 : decode cX12_endBlock 86 = .ok (.getfield 217, 3) := by decide +kernel
theorem dX12_endBlock_89 : decode cX12_endBlock 89 = .ok (.iconst 1, 1) := by decide +kernel
theorem dX12_endBlock_90 : decode cX12_endBlock 90 = .ok (.isub, 1) := by decide +kernel
theorem dX12_endBlock_91 : decode cX12_endBlock 91 = .ok (.putfield 217, 3) := by decide +kernel
theorem dX12_endBlock_94 : decode cX12_endBlock 94 = .ok (.goto 64, 3) := by decide +kernel
theorem dX12_endBlock_97 : decode cX12_endBlock 97 = .ok (.aload_n 0, 1) := by decide +kernel
theorem dX12_endBlock_98 : decode cX12_endBlock 98 = .ok (.aload_n 0, 1) := by decide +kernel
theorem dX12_endBlock_99 : decode cX12_endBlock 99 = .ok (.getfield 72, 3) := by decide +kernel
theorem dX12_endBlock_102 : decode cX12_endBlock 102 = .ok (.iload_n 2, 1) := by decide +kernel
theorem dX12_endBlock_103 : decode cX12_endBlock 103 = .ok (.iaload, 1) := by decide +kernel
theorem dX12_endBlock_104 : decode cX12_endBlock 104 = .ok (.iconst 2, 1) := by decide +kernel
theorem dX12_endBlock_105 : decode cX12_endBlock 105 = .ok (.if_icmp .ne 12, 3) := by decide +kernel
theorem dX12_endBlock_108 : decode cX12_endBlock 108 = .ok (.aload_n 0, 1) := by decide +kernel
theorem dX12_endBlock_109 : decode cX12_endBlock 109 = .ok (.getfield 75, 3) := by decide +kernel
theorem dX12_endBlock_112 : decode cX12_endBlock 112 = .ok (.iload_n 2, 1) := by decide +kernel
theorem dX12_endBlock_113 : decode cX12_endBlock 113 = .ok (.iaload, 1) := by decide +kernel
theorem dX12_endBlock_114 : decode cX12_endBlock 114 = .ok (.goto 4, 3) := by decide +kernel
theorem dX12_endBlock_117 : decode cX12_endBlock 117 = .ok (.iconst 0, 1) := by decide +kernel
theorem dX12_endBlock_118 : decode cX12_endBlock 118 = .ok (.putfield 255, 3) := by decide +kernel
theorem dX12_endBlock_121 : decode cX12_endBlock 121 = .ok (.aload_n 0, 1) := by decide +kernel
theorem dX12_endBlock_122 : decode cX12_endBlock 122 = .ok (.aload_n 0, 1) := by decide +kernel
theorem dX12_endBlock_123 : decode cX12_endBlock 123 = .ok (.getfield 72, 3) := by decide +kernel
theorem dX12_endBlock_126 : decode cX12_endBlock 126 = .ok (.iload_n 2, 1) := by decide +kernel
theorem dX12_endBlock_127 : decode cX12_endBlock 127 = .ok (.iaload, 1) := by decide +kernel
theorem dX12_endBlock_128 : decode cX12_endBlock 128 = .ok (.iconst 2, 1) := by decide +kernel
theorem dX12_endBlock_129 : decode cX12_endBlock 129 = .ok (.if_icmp .ne 12, 3) := by decide +kernel
theorem dX12_endBlock_132 : decode cX12_endBlock 132 = .ok (.aload_n 0, 1) := by decide +kernel
theorem dX12_endBlock_133 : decode cX12_endBlock 133 = .ok (.getfield 81, 3) := by decide +kernel
theorem dX12_endBlock_136 : decode cX12_endBlock 136 = .ok (.iload_n 2, 1) := by decide +kernel
theorem dX12_endBlock_137 : decode cX12_endBlock 137 = .ok (.iaload, 1) := by decide +kernel
theorem dX12_endBlock_138 : decode cX12_endBlock 138 = .ok (.goto 7, 3) := by decide +kernel
theorem dX12_endBlock_141 : decode cX12_endBlock 141 = .ok (.aload_n 0, 1) := by decide +kernel
theorem dX12_endBlock_142 : decode cX12_endBlock 142 = .ok (.getfield 252, 3) := by decide +kernel
theorem dX12_endBlock_145 : decode cX12_endBlock 145 = .ok (.putfield 252, 3) := by decide +kernel
theorem dX12_endBlock_148 : decode cX12_endBlock 148 = .ok (.aload_n 0, 1) := by decide +kernel
theorem dX12_endBlock_149 : decode cX12_endBlock 149 = .ok (.dup, 1) := by decide +kernel
theorem dX12_endBlock_150 : decode cX12_endBlock 150 = .ok (.getfield 217, 3) := by decide +kernel
theorem dX12_endBlock_153 : decode cX12_endBlock 153 = .ok (.iconst 1, 1) := by decide +kernel
theorem dX12_endBlock_154 : decode cX12_endBlock 154 = .ok (.isub, 1) := by decide +kernel
theorem dX12_endBlock_155 : decode cX12_endBlock 155 = .ok (.putfield 217, 3) := by decide +kernel
theorem dX12_endBlock_158 : decode cX12_endBlock 158 = .ok (.return_, 1) := by decide +kernel
theorem dX12_run_0 : decode cX12_run 0 = .ok (.aload_n 0, 1) := by decide +kernel
theorem dX12_run_1 : decode cX12_run 1 = .ok (.iload_n 1, 1) := by decide +kernel
theorem dX12_run_2 : decode cX12_run 2 = .ok (.invokevirtual 180, 3) := by decide +kernel
theorem dX12_run_5 : decode cX12_run 5 = .ok (.ifCond .ne 15, 3) := by decide +kernel
theorem dX12_run_8 : decode cX12_run 8 = .ok (.iload_n 2, 1) := by decide +kernel
theorem dX12_run_9 : decode cX12_run 9 = .ok (.i2l, 1) := by decide +kernel
theorem dX12_run_10 : decode cX12_run 10 = .ok (.lconst 0, 1) := by decide +kernel
theorem dX12_run_11 : decode cX12_run 11 = .ok (.ldc2_w 183, 3) := by decide +kernel
theorem dX12_run_14 : decode cX12_run 14 = .ok (.invokestatic 147, 3) := by decide +kernel
theorem dX12_run_17 : decode cX12_run 17 = .ok (.ifCond .ne 6, 3) := by decide +kernel
theorem dX12_run_20 : decode cX12_run 20 = .ok (.bipush (-101), 2) := by decide +kernel
theorem dX12_run_22 : decode cX12_run 22 = .ok (.ireturn, 1) := by decide +kernel
theorem dX12_run_23 : decode cX12_run 23 = .ok (.aload_n 0, 1) := by decide +kernel
theorem dX12_run_24 : decode cX12_run 24 = .ok (.iload_n 1, 1) := by decide +kernel
theorem dX12_run_25 : decode cX12_run 25 = .ok (.invokevirtual 209, 3) := by decide +kernel
theorem dX12_run_28 : decode cX12_run 28 = .ok (.aload_n 0, 1) := by decide +kernel
theorem dX12_run_29 : decode cX12_run 29 = .ok (.getfield 196, 3) := by decide +kernel
theorem dX12_run_32 : decode cX12_run 32 = .ok (.ifCond .le 6, 3) := by decide +kernel
theorem dX12_run_35 : decode cX12_run 35 = .ok (.bipush (-103), 2) := by decide +kernel
theorem dX12_run_37 : decode cX12_run 37 = .ok (.ireturn, 1) := by decide +kernel
theorem dX12_run_38 : decode cX12_run 38 = .ok (.aload_n 0, 1) := by decide +kernel
theorem dX12_run_39 : decode cX12_run 39 = .ok (.iconst 0, 1) := by decide +kernel
theorem dX12_run_40 : decode cX12_run 40 = .ok (.putfield 217, 3) := by decide +kernel
theorem dX12_run_43 : decode cX12_run 43 = .ok (.aload_n 0, 1) := by decide +kernel
theorem dX12_run_44 : decode cX12_run 44 = .ok (.iconst 0, 1) := by decide +kernel
theorem dX12_run_45 : decode cX12_run 45 = .ok (.putfield 223, 3) := by decide +kernel
theorem dX12_run_48 : decode cX12_run 48 = .ok (.aload_n 0, 1) := by decide +kernel
theorem dX12_run_49 : decode cX12_run 49 = .ok (.iconst 0, 1) := by decide +kernel
theorem dX12_run_50 : decode cX12_run 50 = .ok (.putfield 258, 3) := by decide +kernel
theorem dX12_run_53 : decode cX12_run 53 = .ok (.aload_n 0, 1) := by decide +kernel
theorem dX12_run_54 : decode cX12_run 54 = .ok (.iconst 0, 1) := by decide +kernel
theorem dX12_run_55 : decode cX12_run 55 = .ok (.putfield 324, 3) := by decide +kernel
theorem dX12_run_58 : decode cX12_run 58 = .ok (.aload_n 0, 1) := by decide +kernel
theorem dX12_run_59 : decode cX12_run 59 = .ok (.iconst 0, 1) := by decide +kernel
theorem dX12_run_60 : decode cX12_run 60 = .ok (.putfield 236, 3) := by decide +kernel
theorem dX12_run_63 : decode cX12_run 63 = .ok (.aload_n 0, 1) := by decide +kernel
theorem dX12_run_64 : decode cX12_run 64 = .ok (.iconst 0, 1) := by decide +kernel
theorem dX12_run_65 : decode cX12_run 65 = .ok (.putfield 245, 3) := by decide +kernel
theorem dX12_run_68 : decode cX12_run 68 = .ok (.aload_n 0, 1) := by decide +kernel
theorem dX12_run_69 : decode cX12_run 69 = .ok (.iconst 0, 1) := by decide +kernel
theorem dX12_run_70 : decode cX12_run 70 = .ok (.putfield 255, 3) := by decide +kernel
theorem dX12_run_73 : decode cX12_run 73 = .ok (.aload_n 0, 1) := by decide +kernel
theorem dX12_run_74 : decode cX12_run 74 = .ok (.iconst (-1), 1) := by decide +kernel
theorem dX12_run_75 : decode cX12_run 75 = .ok (.putfield 252, 3) := by decide +kernel
theorem dX12_run_78 : decode cX12_run 78 = .ok (.aload_n 0, 1) := by decide +kernel
theorem dX12_run_79 : decode cX12_run 79 = .ok (.iconst 0, 1) := by decide +kernel
theorem dX12_run_80 : decode cX12_run 80 = .ok (.putfield 267, 3) := by decide +kernel
theorem dX12_run_83 : decode cX12_run 83 = .ok (.aload_n 0, 1) := by decide +kernel
theorem dX12_run_84 : decode cX12_run 84 = .ok (.iconst 0, 1) := by decide +kernel
theorem dX12_run_85 : decode cX12_run 85 = .ok (.putfield 239, 3) := by decide +kernel
theorem dX12_run_88 : decode cX12_run 88 = .ok (.aload_n 0, 1) := by decide +kernel
theorem dX12_run_89 : decode cX12_run 89 = .ok (.iconst 0, 1) := by decide +kernel
theorem dX12_run_90 : decode cX12_run 90 = .ok (.putfield 327, 3) := by decide +kernel
theorem dX12_run_93 : decode cX12_run 93 = .ok (.aload_n 0, 1) := by decide +kernel
theorem dX12_run_94 : decode cX12_run 94 = .ok (.iconst 0, 1) := by decide +kernel
theorem dX12_run_95 : decode cX12_run 95 = .ok (.putfield 281, 3) := by decide +kernel
theorem dX12_run_98 : decode cX12_run 98 = .ok (.aload_n 0, 1) := by decide +kernel
theorem dX12_run_99 : decode cX12_run 99 = .ok (.iconst 0, 1) := by decide +kernel
theorem dX12_run_100 : decode cX12_run 100 = .ok (.putfield 300, 3) := by decide +kernel
theorem dX12_run_103 : decode cX12_run 103 = .ok (.aload_n 0, 1) := by decide +kernel
theorem dX12_run_104 : decode cX12_run 104 = .ok (.iconst (-1), 1) := by decide +kernel
theorem dX12_run_105 : decode cX12_run 105 = .ok (.putfield 129, 3) := by decide +kernel
theorem dX12_run_108 : decode cX12_run 108 = .ok (.aload_n 0, 1) := by decide +kernel
theorem dX12_run_109 : decode cX12_run 109 = .ok (.iconst 0, 1) := by decide +kernel
theorem dX12_run_110 : decode cX12_run 110 = .ok (.putfield 270, 3) := by decide +kernel
theorem dX12_run_113 : decode cX12_run 113 = .ok (.aload_n 0, 1) := by decide +kernel
theorem dX12_run_114 : decode cX12_run 114 = .ok (.iload_n 2, 1) := by decide +kernel
theorem dX12_run_115 : decode cX12_run 115 = .ok (.putfield 261, 3) := by decide +kernel
theorem dX12_run_118 : decode cX12_run 118 = .ok (.aload_n 0, 1) := by decide +kernel
theorem dX12_run_119 : decode cX12_run 119 = .ok (.iload_n 1, 1) := by decide +kernel
theorem dX12_run_120 : decode cX12_run 120 = .ok (.iconst (-1), 1) := by decide +kernel
theorem dX12_run_121 : decode cX12_run 121 = .ok (.invokevirtual 343, 3) := by decide +kernel
theorem dX12_run_124 : decode cX12_run 124 = .ok (.aload_n 0, 1) := by decide +kernel
theorem dX12_run_125 : decode cX12_run 125 = .ok (.iconst 0, 1) := by decide +kernel
theorem dX12_run_126 : decode cX12_run 126 = .ok (.invokevirtual 230, 3) := by decide +kernel
theorem dX12_run_129 : decode cX12_run 129 = .ok (.aload_n 0, 1) := by decide +kernel
theorem dX12_run_130 : decode cX12_run 130 = .ok (.getfield 270, 3) := by decide +kernel
theorem dX12_run_133 : decode cX12_run 133 = .ok (.ifCond .ne 24, 3) := by decide +kernel
theorem dX12_run_136 : decode cX12_run 136 = .ok (.aload_n 0, 1) := by decide +kernel
theorem dX12_run_137 : decode cX12_run 137 = .ok (.getfield 255, 3) := by decide +kernel
theorem dX12_run_140 : decode cX12_run 140 = .ok (.ifCond .ne 10, 3) := by decide +kernel
theorem dX12_run_143 : decode cX12_run 143 = .ok (.aload_n 0, 1) := by decide +kernel
theorem dX12_run_144 : decode cX12_run 144 = .ok (.invokevirtual 356, 3) := by decide +kernel
theorem dX12_run_147 : decode cX12_run 147 = .ok (.goto (-18), 3) := by decide +kernel
theorem dX12_run_150 : decode cX12_run 150 = .ok (.aload_n 0, 1) := by decide +kernel
theorem dX12_run_151 : decode cX12_run 151 = .ok (.invokevirtual 359, 3) := by decide +kernel
theorem dX12_run_154 : decode cX12_run 154 = .ok (.goto (-25), 3) := by decide +kernel
theorem dX12_run_157 : decode cX12_run 157 = .ok (.iconst 0, 1) := by decide +kernel
theorem dX12_run_158 : decode cX12_run 158 = .ok (.istore_n 3, 1) := by decide +kernel
theorem dX12_run_159 : decode cX12_run 159 = .ok (.iload_n 3, 1) := by decide +kernel
theorem dX12_run_160 : decode cX12_run 160 = .ok (.aload_n 0, 1) := by decide +kernel
theorem dX12_run_161 : decode cX12_run 161 = .ok (.getfield 258, 3) := by decide +kernel
theorem dX12_run_164 : decode cX12_run 164 = .ok (.if_icmp .ge 121, 3) := by decide +kernel
theorem dX12_run_167 : decode cX12_run 167 = .ok (.aload_n 0, 1) := by decide +kernel
theorem dX12_run_168 : decode cX12_run 168 = .ok (.getfield 102, 3) := by decide +kernel
theorem dX12_run_171 : decode cX12_run 171 = .ok (.iload_n 3, 1) := by decide +kernel
theorem dX12_run_172 : decode cX12_run 172 = .ok (.baload, 1) := by decide +kernel
theorem dX12_run_173 : decode cX12_run 173 = .ok (.ifCond .eq 106, 3) := by decide +kernel
theorem dX12_run_176 : decode cX12_run 176 = .ok (.aload_n 0, 1) := by decide +kernel
theorem dX12_run_177 : decode cX12_run 177 = .ok (.getfield 90, 3) := by decide +kernel
theorem dX12_run_180 : decode cX12_run 180 = .ok (.iload_n 3, 1) := by decide +kernel
theorem dX12_run_181 : decode cX12_run 181 = .ok (.iaload, 1) := by decide +kernel
theorem dX12_run_182 : decode cX12_run 182 = .ok (.iconst 1, 1) := by decide +kernel
theorem dX12_run_183 : decode cX12_run 183 = .ok (.if_icmp .ne 96, 3) := by decide +kernel
theorem dX12_run_186 : decode cX12_run 186 = .ok (.aload_n 0, 1) := by decide +kernel
theorem dX12_run_187 : decode cX12_run 187 = .ok (.getfield 133, 3) := by decide +kernel
theorem dX12_run_190 : decode cX12_run 190 = .ok (.aload_n 0, 1) := by decide +kernel
theorem dX12_run_191 : decode cX12_run 191 = .ok (.getfield 362, 3) := by decide +kernel
theorem dX12_run_194 : decode cX12_run 194 = .ok (.aload_n 0, 1) := by decide +kernel
theorem dX12_run_195 : decode cX12_run 195 = .ok (.getfield 87, 3) := by decide +kernel
theorem dX12_run_198 : decode cX12_run 198 = .ok (.iload_n 3, 1) := by decide +kernel
theorem dX12_run_199 : decode cX12_run 199 = .ok (.iaload, 1) := by decide +kernel
theorem dX12_run_200 : decode cX12_run 200 = .ok (.iastore, 1) := by decide +kernel
theorem dX12_run_201 : decode cX12_run 201 = .ok (.aload_n 0, 1) := by decide +kernel
theorem dX12_run_202 : decode cX12_run 202 = .ok (.getfield 136, 3) := by decide +kernel
theorem dX12_run_205 : decode cX12_run 205 = .ok (.aload_n 0, 1) := by decide +kernel
theorem dX12_run_206 : decode cX12_run 206 = .ok (.getfield 362, 3) := by decide +kernel
theorem dX12_run_209 : decode cX12_run 209 = .ok (.iload_n 2, 1) := by decide +kernel
theorem dX12_run_210 : decode cX12_run 210 = .ok (.iastore, 1) := by decide +kernel
theorem dX12_run_211 : decode cX12_run 211 = .ok (.aload_n 0, 1) := by decide +kernel
theorem dX12_run_212 : decode cX12_run 212 = .ok (.getfield 139, 3) := by decide +kernel
theorem dX12_run_215 : decode cX12_run 215 = .ok (.aload_n 0, 1) := by decide +kernel
theorem dX12_run_216 : decode cX12_run 216 = .ok (.getfield 362, 3) := by decide +kernel
theorem dX12_run_219 : decode cX12_run 219 = .ok (.aload_n 0, 1) := by decide +kernel
theorem dX12_run_220 : decode cX12_run 220 = .ok (.getfield 105, 3) := by decide +kernel
theorem dX12_run_223 : decode cX12_run 223 = .ok (.iload_n 3, 1) := by decide +kernel
theorem dX12_run_224 : decode cX12_run 224 = .ok (.iaload, 1) := by decide +kernel
theorem dX12_run_225 : decode cX12_run 225 = .ok (.iastore, 1) := by decide +kernel
theorem dX12_run_226 : decode cX12_run 226 = .ok (.iconst 0, 1) := by decide +kernel
theorem dX12_run_227 : decode cX12_run 227 = .ok (.istore 4, 2) := by decide +kernel
theorem dX12_run_229 : decode cX12_run 229 = .ok (.iload 4, 2) := by decide +kernel
theorem dX12_run_231 : decode cX12_run 231 = .ok (.bipush 20, 2) := by decide +kernel
theorem dX12_run_233 : decode cX12_run 233 = .ok (.if_icmp .ge 36, 3) := by decide +kernel
theorem dX12_run_236 : decode cX12_run 236 = .ok (.aload_n 0, 1) := by decide +kernel
theorem dX12_run_237 : decode cX12_run 237 = .ok (.getfield 142, 3) := by decide +kernel
theorem dX12_run_240 : decode cX12_run 240 = .ok (.bipush 20, 2) := by decide +kernel
theorem dX12_run_242 : decode cX12_run 242 = .ok (.aload_n 0, 1) := by decide +kernel
theorem dX12_run_243 : decode cX12_run 243 = .ok (.getfield 362, 3) := by decide +kernel
theorem dX12_run_246 : decode cX12_run 246 = .ok (.imul, 1) := by decide +kernel
theorem dX12_run_247 : decode cX12_run 247 = .ok (.iload 4, 2) := by decide +kernel
theorem dX12_run_249 : decode cX12_run 249 = .ok (.iadd, 1) := by decide +kernel
theorem dX12_run_250 : decode cX12_run 250 = .ok (.aload_n 0, 1) := by decide +kernel
theorem dX12_run_251 : decode cX12_run 251 = .ok (.getfield 108, 3) := by decide +kernel
theorem dX12_run_254 : decode cX12_run 254 = .ok (.bipush 20, 2) := by decide +kernel
theorem dX12_run_256 : decode cX12_run 256 = .ok (.iload_n 3, 1) := by decide +kernel
theorem dX12_run_257 : decode cX12_run 257 = .ok (.imul, 1) := by decide +kernel
theorem dX12_run_258 : decode cX12_run 258 = .ok (.iload 4, 2) := by decide +kernel
theorem dX12_run_260 : decode cX12_run 260 = .ok (.iadd, 1) := by decide +kernel
theorem dX12_run_261 : decode cX12_run 261 = .ok (.iaload, 1) := by decide +kernel
theorem dX12_run_262 : decode cX12_run 262 = .ok (.iastore, 1) := by decide +kernel
theorem dX12_run_263 : decode cX12_run 263 = .ok (.iinc 4 1, 3) := by decide +kernel
theorem dX12_run_266 : decode cX12_run 266 = .ok (.goto (-37), 3) := by decide +kernel
theorem dX12_run_269 : decode cX12_run 269 = .ok (.aload_n 0, 1) := by decide +kernel
theorem dX12_run_270 : decode cX12_run 270 = .ok (.dup, 1) := by decide +kernel
theorem dX12_run_271 : decode cX12_run 271 = .ok (.getfield 362, 3) := by decide +kernel
theorem dX12_run_274 : decode cX12_run 274 = .ok (.iconst 1, 1) := by decide +kernel
theorem dX12_run_275 : decode cX12_run 275 = .ok (.iadd, 1) := by decide +kernel
theorem dX12_run_276 : decode cX12_run 276 = .ok (.putfield 362, 3) := by decide +kernel
theorem dX12_run_279 : decode cX12_run 279 = .ok (.iinc 3 1, 3) := by decide +kernel
theorem dX12_run_282 : decode cX12_run 282 = .ok (.goto (-123), 3) := by decide +kernel
theorem dX12_run_285 : decode cX12_run 285 = .ok (.aload_n 0, 1) := by decide +kernel
theorem dX12_run_286 : decode cX12_run 286 = .ok (.getfield 267, 3) := by decide +kernel
theorem dX12_run_289 : decode cX12_run 289 = .ok (.ireturn, 1) := by decide +kernel
theorem dX12_ran_0 : decode cX12_ran 0 = .ok (.iload_n 1, 1) := by decide +kernel
theorem dX12_ran_1 : decode cX12_ran 1 = .ok (.tableswitch 78 0 6 #[43, 48, 53, 58, 63, 68, 73], 43) := by decide +kernel
theorem dX12_ran_44 : decode cX12_ran 44 = .ok (.aload_n 0, 1) := by decide +kernel
theorem dX12_ran_45 : decode cX12_ran 45 = .ok (.getfield 267, 3) := by decide +kernel
theorem dX12_ran_48 : decode cX12_ran 48 = .ok (.ireturn, 1) := by decide +kernel
theorem dX12_ran_49 : decode cX12_ran 49 = .ok (.aload_n 0, 1) := by decide +kernel
theorem dX12_ran_50 : decode cX12_ran 50 = .ok (.getfield 239, 3) := by decide +kernel
theorem dX12_ran_53 : decode cX12_ran 53 = .ok (.ireturn, 1) := by decide +kernel
theorem dX12_ran_54 : decode cX12_ran 54 = .ok (.aload_n 0, 1) := by decide +kernel
theorem dX12_ran_55 : decode cX12_ran 55 = .ok (.getfield 245, 3) := by decide +kernel
theorem dX12_ran_58 : decode cX12_ran 58 = .ok (.ireturn, 1) := by decide +kernel
theorem dX12_ran_59 : decode cX12_ran 59 = .ok (.aload_n 0, 1) := by decide +kernel
theorem dX12_ran_60 : decode cX12_ran 60 = .ok (.getfield 327, 3) := by decide +kernel
theorem dX12_ran_63 : decode cX12_ran 63 = .ok (.ireturn, 1) := by decide +kernel
theorem dX12_ran_64 : decode cX12_ran 64 = .ok (.aload_n 0, 1) := by decide +kernel
theorem dX12_ran_65 : decode cX12_ran 65 = .ok (.getfield 236, 3) := by decide +kernel
theorem dX12_ran_68 : decode cX12_ran 68 = .ok (.ireturn, 1) := by decide +kernel
theorem dX12_ran_69 : decode cX12_ran 69 = .ok (.aload_n 0, 1) := by decide +kernel
theorem dX12_ran_70 : decode cX12_ran 70 = .ok (.getfield 300, 3) := by decide +kernel
theorem dX12_ran_73 : decode cX12_ran 73 = .ok (.ireturn, 1) := by decide +kernel
theorem dX12_ran_74 : decode cX12_ran 74 = .ok (.aload_n 0, 1) := by decide +kernel
theorem dX12_ran_75 : decode cX12_ran 75 = .ok (.getfield 129, 3) := by decide +kernel
theorem dX12_ran_78 : decode cX12_ran 78 = .ok (.ireturn, 1) := by decide +kernel
theorem dX12_ran_79 : decode cX12_ran 79 = .ok (.bipush (-102), 2) := by decide +kernel
theorem dX12_ran_81 : decode cX12_ran 81 = .ok (.ireturn, 1) := by decide +kernel
theorem dX12_failure_0 : decode cX12_failure 0 = .ok (.iload_n 1, 1) := by decide +kernel
theorem dX12_failure_1 : decode cX12_failure 1 = .ok (.i2l, 1) := by decide +kernel
theorem dX12_failure_2 : decode cX12_failure 2 = .ok (.lconst 0, 1) := by decide +kernel
theorem dX12_failure_3 : decode cX12_failure 3 = .ok (.aload_n 0, 1) := by decide +kernel
theorem dX12_failure_4 : decode cX12_failure 4 = .ok (.getfield 245, 3) := by decide +kernel
theorem dX12_failure_7 : decode cX12_failure 7 = .ok (.iconst 1, 1) := by decide +kernel
theorem dX12_failure_8 : decode cX12_failure 8 = .ok (.isub, 1) := by decide +kernel
theorem dX12_failure_9 : decode cX12_failure 9 = .ok (.i2l, 1) := by decide +kernel
theorem dX12_failure_10 : decode cX12_failure 10 = .ok (.invokestatic 147, 3) := by decide +kernel
theorem dX12_failure_13 : decode cX12_failure 13 = .ok (.ifCond .ne 6, 3) := by decide +kernel
theorem dX12_failure_16 : decode cX12_failure 16 = .ok (.bipush (-101), 2) := by decide +kernel
theorem dX12_failure_18 : decode cX12_failure 18 = .ok (.ireturn, 1) := by decide +kernel
theorem dX12_failure_19 : decode cX12_failure 19 = .ok (.iload_n 2, 1) := by decide +kernel
theorem dX12_failure_20 : decode cX12_failure 20 = .ok (.tableswitch 82 0 5 #[40, 47, 54, 61, 68, 75], 40) := by decide +kernel
theorem dX12_failure_60 : decode cX12_failure 60 = .ok (.aload_n 0, 1) := by decide +kernel
theorem dX12_failure_61 : decode cX12_failure 61 = .ok (.getfield 111, 3) := by decide +kernel
theorem dX12_failure_64 : decode cX12_failure 64 = .ok (.iload_n 1, 1) := by decide +kernel
theorem dX12_failure_65 : decode cX12_failure 65 = .ok (.iaload, 1) := by decide +kernel
theorem dX12_failure_66 : decode cX12_failure 66 = .ok (.ireturn, 1) := by decide +kernel
theorem dX12_failure_67 : decode cX12_failure 67 = .ok (.aload_n 0, 1) := by decide +kernel
theorem dX12_failure_68 : decode cX12_failure 68 = .ok (.getfield 114, 3) := by decide +kernel
theorem dX12_failure_71 : decode cX12_failure 71 = .ok (.iload_n 1, 1) := by decide +kernel
theorem dX12_failure_72 : decode cX12_failure 72 = .ok (.iaload, 1) := by decide +kernel
theorem dX12_failure_73 : decode cX12_failure 73 = .ok (.ireturn, 1) := by decide +kernel
theorem dX12_failure_74 : decode cX12_failure 74 = .ok (.aload_n 0, 1) := by decide +kernel
theorem dX12_failure_75 : decode cX12_failure 75 = .ok (.getfield 117, 3) := by decide +kernel
theorem dX12_failure_78 : decode cX12_failure 78 = .ok (.iload_n 1, 1) := by decide +kernel
theorem dX12_failure_79 : decode cX12_failure 79 = .ok (.iaload, 1) := by decide +kernel
theorem dX12_failure_80 : decode cX12_failure 80 = .ok (.ireturn, 1) := by decide +kernel
theorem dX12_failure_81 : decode cX12_failure 81 = .ok (.aload_n 0, 1) := by decide +kernel
theorem dX12_failure_82 : decode cX12_failure 82 = .ok (.getfield 120, 3) := by decide +kernel
theorem dX12_failure_85 : decode cX12_failure 85 = .ok (.iload_n 1, 1) := by decide +kernel
theorem dX12_failure_86 : decode cX12_failure 86 = .ok (.iaload, 1) := by decide +kernel
theorem dX12_failure_87 : decode cX12_failure 87 = .ok (.ireturn, 1) := by decide +kernel
theorem dX12_failure_88 : decode cX12_failure 88 = .ok (.aload_n 0, 1) := by decide +kernel
theorem dX12_failure_89 : decode cX12_failure 89 = .ok (.getfield 123, 3) := by decide +kernel
theorem dX12_failure_92 : decode cX12_failure 92 = .ok (.iload_n 1, 1) := by decide +kernel
theorem dX12_failure_93 : decode cX12_failure 93 = .ok (.iaload, 1) := by decide +kernel
theorem dX12_failure_94 : decode cX12_failure 94 = .ok (.ireturn, 1) := by decide +kernel
theorem dX12_failure_95 : decode cX12_failure 95 = .ok (.aload_n 0, 1) := by decide +kernel
theorem dX12_failure_96 : decode cX12_failure 96 = .ok (.getfield 126, 3) := by decide +kernel
theorem dX12_failure_99 : decode cX12_failure 99 = .ok (.iload_n 1, 1) := by decide +kernel
theorem dX12_failure_100 : decode cX12_failure 100 = .ok (.iaload, 1) := by decide +kernel
theorem dX12_failure_101 : decode cX12_failure 101 = .ok (.ireturn, 1) := by decide +kernel
theorem dX12_failure_102 : decode cX12_failure 102 = .ok (.bipush (-102), 2) := by decide +kernel
theorem dX12_failure_104 : decode cX12_failure 104 = .ok (.ireturn, 1) := by decide +kernel
theorem dX12_leaks_0 : decode cX12_leaks 0 = .ok (.aload_n 0, 1) := by decide +kernel
theorem dX12_leaks_1 : decode cX12_leaks 1 = .ok (.getfield 362, 3) := by decide +kernel
theorem dX12_leaks_4 : decode cX12_leaks 4 = .ok (.ireturn, 1) := by decide +kernel
theorem dX12_leak_0 : decode cX12_leak 0 = .ok (.iload_n 1, 1) := by decide +kernel
theorem dX12_leak_1 : decode cX12_leak 1 = .ok (.i2l, 1) := by decide +kernel
theorem dX12_leak_2 : decode cX12_leak 2 = .ok (.lconst 0, 1) := by decide +kernel
theorem dX12_leak_3 : decode cX12_leak 3 = .ok (.aload_n 0, 1) := by decide +kernel
theorem dX12_leak_4 : decode cX12_leak 4 = .ok (.getfield 362, 3) := by decide +kernel
theorem dX12_leak_7 : decode cX12_leak 7 = .ok (.iconst 1, 1) := by decide +kernel
theorem dX12_leak_8 : decode cX12_leak 8 = .ok (.isub, 1) := by decide +kernel
theorem dX12_leak_9 : decode cX12_leak 9 = .ok (.i2l, 1) := by decide +kernel
theorem dX12_leak_10 : decode cX12_leak 10 = .ok (.invokestatic 147, 3) := by decide +kernel
theorem dX12_leak_13 : decode cX12_leak 13 = .ok (.ifCond .ne 6, 3) := by decide +kernel
theorem dX12_leak_16 : decode cX12_leak 16 = .ok (.bipush (-101), 2) := by decide +kernel
theorem dX12_leak_18 : decode cX12_leak 18 = .ok (.ireturn, 1) := by decide +kernel
theorem dX12_leak_19 : decode cX12_leak 19 = .ok (.iload_n 2, 1) := by decide +kernel
theorem dX12_leak_20 : decode cX12_leak 20 = .ok (.ifCond .ne 12, 3) := by decide +kernel
theorem dX12_leak_23 : decode cX12_leak 23 = .ok (.aload_n 0, 1) := by decide +kernel
theorem dX12_leak_24 : decode cX12_leak 24 = .ok (.getfield 133, 3) := by decide +kernel
theorem dX12_leak_27 : decode cX12_leak 27 = .ok (.iload_n 1, 1) := by decide +kernel
theorem dX12_leak_28 : decode cX12_leak 28 = .ok (.iaload, 1) := by decide +kernel
theorem dX12_leak_29 : decode cX12_leak 29 = .ok (.goto 33, 3) := by decide +kernel
theorem dX12_leak_32 : decode cX12_leak 32 = .ok (.iload_n 2, 1) := by decide +kernel
theorem dX12_leak_33 : decode cX12_leak 33 = .ok (.iconst 1, 1) := by decide +kernel
theorem dX12_leak_34 : decode cX12_leak 34 = .ok (.if_icmp .ne 12, 3) := by decide +kernel
theorem dX12_leak_37 : decode cX12_leak 37 = .ok (.aload_n 0, 1) := by decide +kernel
theorem dX12_leak_38 : decode cX12_leak 38 = .ok (.getfield 136, 3) := by decide +kernel
theorem dX12_leak_41 : decode cX12_leak 41 = .ok (.iload_n 1, 1) := by decide +kernel
theorem dX12_leak_42 : decode cX12_leak 42 = .ok (.iaload, 1) := by decide +kernel
theorem dX12_leak_43 : decode cX12_leak 43 = .ok (.goto 19, 3) := by decide +kernel
theorem dX12_leak_46 : decode cX12_leak 46 = .ok (.iload_n 2, 1) := by decide +kernel
theorem dX12_leak_47 : decode cX12_leak 47 = .ok (.iconst 2, 1) := by decide +kernel
theorem dX12_leak_48 : decode cX12_leak 48 = .ok (.if_icmp .ne 12, 3) := by decide +kernel
theorem dX12_leak_51 : decode cX12_leak 51 = .ok (.aload_n 0, 1) := by decide +kernel
theorem dX12_leak_52 : decode cX12_leak 52 = .ok (.getfield 139, 3) := by decide +kernel
theorem dX12_leak_55 : decode cX12_leak 55 = .ok (.iload_n 1, 1) := by decide +kernel
theorem dX12_leak_56 : decode cX12_leak 56 = .ok (.iaload, 1) := by decide +kernel
theorem dX12_leak_57 : decode cX12_leak 57 = .ok (.goto 5, 3) := by decide +kernel
theorem dX12_leak_60 : decode cX12_leak 60 = .ok (.bipush (-102), 2) := by decide +kernel
theorem dX12_leak_62 : decode cX12_leak 62 = .ok (.ireturn, 1) := by decide +kernel
theorem dX12_trace__0 : decode cX12_trace_ 0 = .ok (.iload_n 1, 1) := by decide +kernel
theorem dX12_trace__1 : decode cX12_trace_ 1 = .ok (.i2l, 1) := by decide +kernel
theorem dX12_trace__2 : decode cX12_trace_ 2 = .ok (.lconst 0, 1) := by decide +kernel
theorem dX12_trace__3 : decode cX12_trace_ 3 = .ok (.aload_n 0, 1) := by decide +kernel
theorem dX12_trace__4 : decode cX12_trace_ 4 = .ok (.getfield 362, 3) := by decide +kernel
theorem dX12_trace__7 : decode cX12_trace_ 7 = .ok (.iconst 1, 1) := by decide +kernel
theorem dX12_trace__8 : decode cX12_trace_ 8 = .ok (.isub, 1) := by decide +kernel
theorem dX12_trace__9 : decode cX12_trace_ 9 = .ok (.i2l, 1) := by decide +kernel
theorem dX12_trace__10 : decode cX12_trace_ 10 = .ok (.invokestatic 147, 3) := by decide +kernel
theorem dX12_trace__13 : decode cX12_trace_ 13 = .ok (.ifCond .eq 21, 3) := by decide +kernel
theorem dX12_trace__16 : decode cX12_trace_ 16 = .ok (.iload_n 2, 1) := by decide +kernel
theorem dX12_trace__17 : decode cX12_trace_ 17 = .ok (.i2l, 1) := by decide +kernel
theorem dX12_trace__18 : decode cX12_trace_ 18 = .ok (.lconst 0, 1) := by decide +kernel
theorem dX12_trace__19 : decode cX12_trace_ 19 = .ok (.aload_n 0, 1) := by decide +kernel
theorem dX12_trace__20 : decode cX12_trace_ 20 = .ok (.getfield 139, 3) := by decide +kernel
theorem dX12_trace__23 : decode cX12_trace_ 23 = .ok (.iload_n 1, 1) := by decide +kernel
theorem dX12_trace__24 : decode cX12_trace_ 24 = .ok (.iaload, 1) := by decide +kernel
theorem dX12_trace__25 : decode cX12_trace_ 25 = .ok (.iconst 1, 1) := by decide +kernel
theorem dX12_trace__26 : decode cX12_trace_ 26 = .ok (.isub, 1) := by decide +kernel
theorem dX12_trace__27 : decode cX12_trace_ 27 = .ok (.i2l, 1) := by decide +kernel
theorem dX12_trace__28 : decode cX12_trace_ 28 = .ok (.invokestatic 147, 3) := by decide +kernel
theorem dX12_trace__31 : decode cX12_trace_ 31 = .ok (.ifCond .ne 6, 3) := by decide +kernel
theorem dX12_trace__34 : decode cX12_trace_ 34 = .ok (.bipush (-101), 2) := by decide +kernel
theorem dX12_trace__36 : decode cX12_trace_ 36 = .ok (.ireturn, 1) := by decide +kernel
theorem dX12_trace__37 : decode cX12_trace_ 37 = .ok (.iload_n 3, 1) := by decide +kernel
theorem dX12_trace__38 : decode cX12_trace_ 38 = .ok (.i2l, 1) := by decide +kernel
theorem dX12_trace__39 : decode cX12_trace_ 39 = .ok (.lconst 0, 1) := by decide +kernel
theorem dX12_trace__40 : decode cX12_trace_ 40 = .ok (.lconst 1, 1) := by decide +kernel
theorem dX12_trace__41 : decode cX12_trace_ 41 = .ok (.invokestatic 147, 3) := by decide +kernel
theorem dX12_trace__44 : decode cX12_trace_ 44 = .ok (.ifCond .eq 21, 3) := by decide +kernel
theorem dX12_trace__47 : decode cX12_trace_ 47 = .ok (.aload_n 0, 1) := by decide +kernel
theorem dX12_trace__48 : decode cX12_trace_ 48 = .ok (.getfield 142, 3) := by decide +kernel
theorem dX12_trace__51 : decode cX12_trace_ 51 = .ok (.bipush 20, 2) := by decide +kernel
theorem dX12_trace__53 : decode cX12_trace_ 53 = .ok (.iload_n 1, 1) := by decide +kernel
theorem dX12_trace__54 : decode cX12_trace_ 54 = .ok (.imul, 1) := by decide +kernel
theorem dX12_trace__55 : decode cX12_trace_ 55 = .ok (.iconst 2, 1) := by decide +kernel
theorem dX12_trace__56 : decode cX12_trace_ 56 = .ok (.iload_n 2, 1) := by decide +kernel
theorem dX12_trace__57 : decode cX12_trace_ 57 = .ok (.imul, 1) := by decide +kernel
theorem dX12_trace__58 : decode cX12_trace_ 58 = .ok (.iadd, 1) := by decide +kernel
theorem dX12_trace__59 : decode cX12_trace_ 59 = .ok (.iload_n 3, 1) := by decide +kernel
theorem dX12_trace__60 : decode cX12_trace_ 60 = .ok (.iadd, 1) := by decide +kernel
theorem dX12_trace__61 : decode cX12_trace_ 61 = .ok (.iaload, 1) := by decide +kernel
theorem dX12_trace__62 : decode cX12_trace_ 62 = .ok (.goto 5, 3) := by decide +kernel
theorem dX12_trace__65 : decode cX12_trace_ 65 = .ok (.bipush (-102), 2) := by decide +kernel
theorem dX12_trace__67 : decode cX12_trace_ 67 = .ok (.ireturn, 1) := by decide +kernel
theorem dX12_giveBack__0 : decode cX12_giveBack_ 0 = .ok (.iload_n 1, 1) := by decide +kernel
theorem dX12_giveBack__1 : decode cX12_giveBack_ 1 = .ok (.i2l, 1) := by decide +kernel
theorem dX12_giveBack__2 : decode cX12_giveBack_ 2 = .ok (.lconst 0, 1) := by decide +kernel
theorem dX12_giveBack__3 : decode cX12_giveBack_ 3 = .ok (.aload_n 0, 1) := by decide +kernel
theorem dX12_giveBack__4 : decode cX12_giveBack_ 4 = .ok (.getfield 362, 3) := by decide +kernel
theorem dX12_giveBack__7 : decode cX12_giveBack_ 7 = .ok (.iconst 1, 1) := by decide +kernel
theorem dX12_giveBack__8 : decode cX12_giveBack_ 8 = .ok (.isub, 1) := by decide +kernel
theorem dX12_giveBack__9 : decode cX12_giveBack_ 9 = .ok (.i2l, 1) := by decide +kernel
theorem dX12_giveBack__10 : decode cX12_giveBack_ 10 = .ok (.invokestatic 147, 3) := by decide +kernel
theorem dX12_giveBack__13 : decode cX12_giveBack_ 13 = .ok (.ifCond .ne 6, 3) := by decide +kernel
theorem dX12_giveBack__16 : decode cX12_giveBack_ 16 = .ok (.bipush (-101), 2) := by decide +kernel
theorem dX12_giveBack__18 : decode cX12_giveBack_ 18 = .ok (.ireturn, 1) := by decide +kernel
theorem dX12_giveBack__19 : decode cX12_giveBack_ 19 = .ok (.aload_n 0, 1) := by decide +kernel
theorem dX12_giveBack__20 : decode cX12_giveBack_ 20 = .ok (.aload_n 0, 1) := by decide +kernel
theorem dX12_giveBack__21 : decode cX12_giveBack_ 21 = .ok (.getfield 133, 3) := by decide +kernel
theorem dX12_giveBack__24 : decode cX12_giveBack_ 24 = .ok (.iload_n 1, 1) := by decide +kernel
theorem dX12_giveBack__25 : decode cX12_giveBack_ 25 = .ok (.iaload, 1) := by decide +kernel
theorem dX12_giveBack__26 : decode cX12_giveBack_ 26 = .ok (.iconst 3, 1) := by decide +kernel
theorem dX12_giveBack__27 : decode cX12_giveBack_ 27 = .ok (.aload_n 0, 1) := by decide +kernel
theorem dX12_giveBack__28 : decode cX12_giveBack_ 28 = .ok (.getfield 136, 3) := by decide +kernel
theorem dX12_giveBack__31 : decode cX12_giveBack_ 31 = .ok (.iload_n 1, 1) := by decide +kernel
theorem dX12_giveBack__32 : decode cX12_giveBack_ 32 = .ok (.iaload, 1) := by decide +kernel
theorem dX12_giveBack__33 : decode cX12_giveBack_ 33 = .ok (.invokevirtual 264, 3) := by decide +kernel
theorem dX12_giveBack__36 : decode cX12_giveBack_ 36 = .ok (.istore_n 2, 1) := by decide +kernel
theorem dX12_giveBack__37 : decode cX12_giveBack_ 37 = .ok (.aload_n 0, 1) := by decide +kernel
theorem dX12_giveBack__38 : decode cX12_giveBack_ 38 = .ok (.dup, 1) := by decide +kernel
theorem dX12_giveBack__39 : decode cX12_giveBack_ 39 = .ok (.getfield 362, 3) := by decide +kernel
theorem dX12_giveBack__42 : decode cX12_giveBack_ 42 = .ok (.iconst 1, 1) := by decide +kernel
theorem dX12_giveBack__43 : decode cX12_giveBack_ 43 = .ok (.isub, 1) := by decide +kernel
theorem dX12_giveBack__44 : decode cX12_giveBack_ 44 = .ok (.putfield 362, 3) := by decide +kernel
theorem dX12_giveBack__47 : decode cX12_giveBack_ 47 = .ok (.iload_n 1, 1) := by decide +kernel
theorem dX12_giveBack__48 : decode cX12_giveBack_ 48 = .ok (.istore_n 3, 1) := by decide +kernel
theorem dX12_giveBack__49 : decode cX12_giveBack_ 49 = .ok (.iload_n 3, 1) := by decide +kernel
theorem dX12_giveBack__50 : decode cX12_giveBack_ 50 = .ok (.aload_n 0, 1) := by decide +kernel
theorem dX12_giveBack__51 : decode cX12_giveBack_ 51 = .ok (.getfield 362, 3) := by decide +kernel
theorem dX12_giveBack__54 : decode cX12_giveBack_ 54 = .ok (.if_icmp .ge 94, 3) := by decide +kernel
theorem dX12_giveBack__57 : decode cX12_giveBack_ 57 = .ok (.aload_n 0, 1) := by decide +kernel
theorem dX12_giveBack__58 : decode cX12_giveBack_ 58 = .ok (.getfield 133, 3) := by decide +kernel
theorem dX12_giveBack__61 : decode cX12_giveBack_ 61 = .ok (.iload_n 3, 1) := by decide +kernel
theorem dX12_giveBack__62 : decode cX12_giveBack_ 62 = .ok (.aload_n 0, 1) := by decide +kernel
theorem dX12_giveBack__63 : decode cX12_giveBack_ 63 = .ok (.getfield 133, 3) := by decide +kernel
theorem dX12_giveBack__66 : decode cX12_giveBack_ 66 = .ok (.iload_n 3, 1) := by decide +kernel
theorem dX12_giveBack__67 : decode cX12_giveBack_ 67 = .ok (.iconst 1, 1) := by decide +kernel
theorem dX12_giveBack__68 : decode cX12_giveBack_ 68 = .ok (.iadd, 1) := by decide +kernel
theorem dX12_giveBack__69 : decode cX12_giveBack_ 69 = .ok (.iaload, 1) := by decide +kernel
theorem dX12_giveBack__70 : decode cX12_giveBack_ 70 = .ok (.iastore, 1) := by decide +kernel
theorem dX12_giveBack__71 : decode cX12_giveBack_ 71 = .ok (.aload_n 0, 1) := by decide +kernel
theorem dX12_giveBack__72 : decode cX12_giveBack_ 72 = .ok (.getfield 136, 3) := by decide +kernel
theorem dX12_giveBack__75 : decode cX12_giveBack_ 75 = .ok (.iload_n 3, 1) := by decide +kernel
theorem dX12_giveBack__76 : decode cX12_giveBack_ 76 = .ok (.aload_n 0, 1) := by decide +kernel
theorem dX12_giveBack__77 : decode cX12_giveBack_ 77 = .ok (.getfield 136, 3) := by decide +kernel
theorem dX12_giveBack__80 : decode cX12_giveBack_ 80 = .ok (.iload_n 3, 1) := by decide +kernel
theorem dX12_giveBack__81 : decode cX12_giveBack_ 81 = .ok (.iconst 1, 1) := by decide +kernel
theorem dX12_giveBack__82 : decode cX12_giveBack_ 82 = .ok (.iadd, 1) := by decide +kernel
theorem dX12_giveBack__83 : decode cX12_giveBack_ 83 = .ok (.iaload, 1) := by decide +kernel
theorem dX12_giveBack__84 : decode cX12_giveBack_ 84 = .ok (.iastore, 1) := by decide +kernel
theorem dX12_giveBack__85 : decode cX12_giveBack_ 85 = .ok (.aload_n 0, 1) := by decide +kernel
theorem dX12_giveBack__86 : decode cX12_giveBack_ 86 = .ok (.getfield 139, 3) := by decide +kernel
theorem dX12_giveBack__89 : decode cX12_giveBack_ 89 = .ok (.iload_n 3, 1) := by decide +kernel
theorem dX12_giveBack__90 : decode cX12_giveBack_ 90 = .ok (.aload_n 0, 1) := by decide +kernel
theorem dX12_giveBack__91 : decode cX12_giveBack_ 91 = .ok (.getfield 139, 3) := by decide +kernel
theorem dX12_giveBack__94 : decode cX12_giveBack_ 94 = .ok (.iload_n 3, 1) := by decide +kernel
theorem dX12_giveBack__95 : decode cX12_giveBack_ 95 = .ok (.iconst 1, 1) := by decide +kernel
theorem dX12_giveBack__96 : decode cX12_giveBack_ 96 = .ok (.iadd, 1) := by decide +kernel
theorem dX12_giveBack__97 : decode cX12_giveBack_ 97 = .ok (.iaload, 1) := by decide +kernel
theorem dX12_giveBack__98 : decode cX12_giveBack_ 98 = .ok (.iastore, 1) := by decide +kernel
theorem dX12_giveBack__99 : decode cX12_giveBack_ 99 = .ok (.iconst 0, 1) := by decide +kernel
theorem dX12_giveBack__100 : decode cX12_giveBack_ 100 = .ok (.istore 4, 2) := by decide +kernel
theorem dX12_giveBack__102 : decode cX12_giveBack_ 102 = .ok (.iload 4, 2) := by decide +kernel
theorem dX12_giveBack__104 : decode cX12_giveBack_ 104 = .ok (.bipush 20, 2) := by decide +kernel
theorem dX12_giveBack__106 : decode cX12_giveBack_ 106 = .ok (.if_icmp .ge 36, 3) := by decide +kernel
theorem dX12_giveBack__109 : decode cX12_giveBack_ 109 = .ok (.aload_n 0, 1) := by decide +kernel
theorem dX12_giveBack__110 : decode cX12_giveBack_ 110 = .ok (.getfield 142, 3) := by decide +kernel
theorem dX12_giveBack__113 : decode cX12_giveBack_ 113 = .ok (.bipush 20, 2) := by decide +kernel
theorem dX12_giveBack__115 : decode cX12_giveBack_ 115 = .ok (.iload_n 3, 1) := by decide +kernel
theorem dX12_giveBack__116 : decode cX12_giveBack_ 116 = .ok (.imul, 1) := by decide +kernel
theorem dX12_giveBack__117 : decode cX12_giveBack_ 117 = .ok (.iload 4, 2) := by decide +kernel
theorem dX12_giveBack__119 : decode cX12_giveBack_ 119 = .ok (.iadd, 1) := by decide +kernel
theorem dX12_giveBack__120 : decode cX12_giveBack_ 120 = .ok (.aload_n 0, 1) := by decide +kernel
theorem dX12_giveBack__121 : decode cX12_giveBack_ 121 = .ok (.getfield 142, 3) := by decide +kernel
theorem dX12_giveBack__124 : decode cX12_giveBack_ 124 = .ok (.bipush 20, 2) := by decide +kernel
theorem dX12_giveBack__126 : decode cX12_giveBack_ 126 = .ok (.iload_n 3, 1) := by decide +kernel
theorem dX12_giveBack__127 : decode cX12_giveBack_ 127 = .ok (.imul, 1) := by decide +kernel
theorem dX12_giveBack__128 : decode cX12_giveBack_ 128 = .ok (.bipush 20, 2) := by decide +kernel
theorem dX12_giveBack__130 : decode cX12_giveBack_ 130 = .ok (.iadd, 1) := by decide +kernel
theorem dX12_giveBack__131 : decode cX12_giveBack_ 131 = .ok (.iload 4, 2) := by decide +kernel
theorem dX12_giveBack__133 : decode cX12_giveBack_ 133 = .ok (.iadd, 1) := by decide +kernel
theorem dX12_giveBack__134 : decode cX12_giveBack_ 134 = .ok (.iaload, 1) := by decide +kernel
theorem dX12_giveBack__135 : decode cX12_giveBack_ 135 = .ok (.iastore, 1) := by decide +kernel
theorem dX12_giveBack__136 : decode cX12_giveBack_ 136 = .ok (.iinc 4 1, 3) := by decide +kernel
theorem dX12_giveBack__139 : decode cX12_giveBack_ 139 = .ok (.goto (-37), 3) := by decide +kernel
theorem dX12_giveBack__142 : decode cX12_giveBack_ 142 = .ok (.iinc 3 1, 3) := by decide +kernel
theorem dX12_giveBack__145 : decode cX12_giveBack_ 145 = .ok (.goto (-96), 3) := by decide +kernel
theorem dX12_giveBack__148 : decode cX12_giveBack_ 148 = .ok (.iload_n 2, 1) := by decide +kernel
theorem dX12_giveBack__149 : decode cX12_giveBack_ 149 = .ok (.ifCond .eq 7, 3) := by decide +kernel
theorem dX12_giveBack__152 : decode cX12_giveBack_ 152 = .ok (.iconst 0, 1) := by decide +kernel
theorem dX12_giveBack__153 : decode cX12_giveBack_ 153 = .ok (.goto 4, 3) := by decide +kernel
theorem dX12_giveBack__156 : decode cX12_giveBack_ 156 = .ok (.iconst 1, 1) := by decide +kernel
theorem dX12_giveBack__157 : decode cX12_giveBack_ 157 = .ok (.ireturn, 1) := by decide +kernel
theorem dX12_cents_0 : decode cX12_cents 0 = .ok (.iload_n 1, 1) := by decide +kernel
theorem dX12_cents_1 : decode cX12_cents 1 = .ok (.i2l, 1) := by decide +kernel
theorem dX12_cents_2 : decode cX12_cents 2 = .ok (.lconst 0, 1) := by decide +kernel
theorem dX12_cents_3 : decode cX12_cents 3 = .ok (.ldc2_w 183, 3) := by decide +kernel
theorem dX12_cents_6 : decode cX12_cents 6 = .ok (.invokestatic 147, 3) := by decide +kernel
theorem dX12_cents_9 : decode cX12_cents 9 = .ok (.ifCond .ne 7, 3) := by decide +kernel
theorem dX12_cents_12 : decode cX12_cents 12 = .ok (.ldc2_w 365, 3) := by decide +kernel
theorem dX12_cents_15 : decode cX12_cents 15 = .ok (.lreturn, 1) := by decide +kernel
theorem dX12_cents_16 : decode cX12_cents 16 = .ok (.iload_n 2, 1) := by decide +kernel
theorem dX12_cents_17 : decode cX12_cents 17 = .ok (.i2l, 1) := by decide +kernel
theorem dX12_cents_18 : decode cX12_cents 18 = .ok (.lconst 0, 1) := by decide +kernel
theorem dX12_cents_19 : decode cX12_cents 19 = .ok (.lconst 1, 1) := by decide +kernel
theorem dX12_cents_20 : decode cX12_cents 20 = .ok (.invokestatic 147, 3) := by decide +kernel
theorem dX12_cents_23 : decode cX12_cents 23 = .ok (.ifCond .ne 7, 3) := by decide +kernel
theorem dX12_cents_26 : decode cX12_cents 26 = .ok (.ldc2_w 367, 3) := by decide +kernel
theorem dX12_cents_29 : decode cX12_cents 29 = .ok (.lreturn, 1) := by decide +kernel
theorem dX12_cents_30 : decode cX12_cents 30 = .ok (.lconst 0, 1) := by decide +kernel
theorem dX12_cents_31 : decode cX12_cents 31 = .ok (.lstore_n 3, 1) := by decide +kernel
theorem dX12_cents_32 : decode cX12_cents 32 = .ok (.iconst 0, 1) := by decide +kernel
theorem dX12_cents_33 : decode cX12_cents 33 = .ok (.istore 5, 2) := by decide +kernel
theorem dX12_cents_35 : decode cX12_cents 35 = .ok (.iload 5, 2) := by decide +kernel
theorem dX12_cents_37 : decode cX12_cents 37 = .ok (.aload_n 0, 1) := by decide +kernel
theorem dX12_cents_38 : decode cX12_cents 38 = .ok (.getfield 362, 3) := by decide +kernel
theorem dX12_cents_41 : decode cX12_cents 41 = .ok (.if_icmp .ge 40, 3) := by decide +kernel
theorem dX12_cents_44 : decode cX12_cents 44 = .ok (.lload_n 3, 1) := by decide +kernel
theorem dX12_cents_45 : decode cX12_cents 45 = .ok (.aload_n 0, 1) := by decide +kernel
theorem dX12_cents_46 : decode cX12_cents 46 = .ok (.getfield 136, 3) := by decide +kernel
theorem dX12_cents_49 : decode cX12_cents 49 = .ok (.iload 5, 2) := by decide +kernel
theorem dX12_cents_51 : decode cX12_cents 51 = .ok (.iaload, 1) := by decide +kernel
theorem dX12_cents_52 : decode cX12_cents 52 = .ok (.iload_n 1, 1) := by decide +kernel
theorem dX12_cents_53 : decode cX12_cents 53 = .ok (.if_icmp .ne 19, 3) := by decide +kernel
theorem dX12_cents_56 : decode cX12_cents 56 = .ok (.aload_n 0, 1) := by decide +kernel
theorem dX12_cents_57 : decode cX12_cents 57 = .ok (.getfield 13, 3) := by decide +kernel
theorem dX12_cents_60 : decode cX12_cents 60 = .ok (.aload_n 0, 1) := by decide +kernel
theorem dX12_cents_61 : decode cX12_cents 61 = .ok (.getfield 133, 3) := by decide +kernel
theorem dX12_cents_64 : decode cX12_cents 64 = .ok (.iload 5, 2) := by decide +kernel
theorem dX12_cents_66 : decode cX12_cents 66 = .ok (.iaload, 1) := by decide +kernel
theorem dX12_cents_67 : decode cX12_cents 67 = .ok (.iaload, 1) := by decide +kernel
theorem dX12_cents_68 : decode cX12_cents 68 = .ok (.i2l, 1) := by decide +kernel
theorem dX12_cents_69 : decode cX12_cents 69 = .ok (.goto 4, 3) := by decide +kernel
theorem dX12_cents_72 : decode cX12_cents 72 = .ok (.lconst 0, 1) := by decide +kernel
theorem dX12_cents_73 : decode cX12_cents 73 = .ok (.ladd, 1) := by decide +kernel
theorem dX12_cents_74 : decode cX12_cents 74 = .ok (.lstore_n 3, 1) := by decide +kernel
theorem dX12_cents_75 : decode cX12_cents 75 = .ok (.iinc 5 1, 3) := by decide +kernel
theorem dX12_cents_78 : decode cX12_cents 78 = .ok (.goto (-43), 3) := by decide +kernel
theorem dX12_cents_81 : decode cX12_cents 81 = .ok (.iload_n 2, 1) := by decide +kernel
theorem dX12_cents_82 : decode cX12_cents 82 = .ok (.ifCond .ne 7, 3) := by decide +kernel
theorem dX12_cents_85 : decode cX12_cents 85 = .ok (.lload_n 3, 1) := by decide +kernel
theorem dX12_cents_86 : decode cX12_cents 86 = .ok (.goto 9, 3) := by decide +kernel
theorem dX12_cents_89 : decode cX12_cents 89 = .ok (.aload_n 0, 1) := by decide +kernel
theorem dX12_cents_90 : decode cX12_cents 90 = .ok (.getfield 34, 3) := by decide +kernel
theorem dX12_cents_93 : decode cX12_cents 93 = .ok (.iload_n 1, 1) := by decide +kernel
theorem dX12_cents_94 : decode cX12_cents 94 = .ok (.laload, 1) := by decide +kernel
theorem dX12_cents_95 : decode cX12_cents 95 = .ok (.lreturn, 1) := by decide +kernel
theorem dX12_log_0 : decode cX12_log 0 = .ok (.iload_n 2, 1) := by decide +kernel
theorem dX12_log_1 : decode cX12_log 1 = .ok (.i2l, 1) := by decide +kernel
theorem dX12_log_2 : decode cX12_log 2 = .ok (.lconst 0, 1) := by decide +kernel
theorem dX12_log_3 : decode cX12_log 3 = .ok (.ldc2_w 369, 3) := by decide +kernel
theorem dX12_log_6 : decode cX12_log 6 = .ok (.invokestatic 147, 3) := by decide +kernel
theorem dX12_log_9 : decode cX12_log 9 = .ok (.ifCond .ne 6, 3) := by decide +kernel
theorem dX12_log_12 : decode cX12_log 12 = .ok (.bipush (-102), 2) := by decide +kernel
theorem dX12_log_14 : decode cX12_log 14 = .ok (.ireturn, 1) := by decide +kernel
theorem dX12_log_15 : decode cX12_log 15 = .ok (.aload_n 0, 1) := by decide +kernel
theorem dX12_log_16 : decode cX12_log 16 = .ok (.getfield 174, 3) := by decide +kernel
theorem dX12_log_19 : decode cX12_log 19 = .ok (.bipush 60, 2) := by decide +kernel
theorem dX12_log_21 : decode cX12_log 21 = .ok (.if_icmp .ge 10, 3) := by decide +kernel
theorem dX12_log_24 : decode cX12_log 24 = .ok (.aload_n 0, 1) := by decide +kernel
theorem dX12_log_25 : decode cX12_log 25 = .ok (.getfield 174, 3) := by decide +kernel
theorem dX12_log_28 : decode cX12_log 28 = .ok (.goto 5, 3) := by decide +kernel
theorem dX12_log_31 : decode cX12_log 31 = .ok (.bipush 60, 2) := by decide +kernel
theorem dX12_log_33 : decode cX12_log 33 = .ok (.istore_n 3, 1) := by decide +kernel
theorem dX12_log_34 : decode cX12_log 34 = .ok (.iload_n 1, 1) := by decide +kernel
theorem dX12_log_35 : decode cX12_log 35 = .ok (.i2l, 1) := by decide +kernel
theorem dX12_log_36 : decode cX12_log 36 = .ok (.lconst 0, 1) := by decide +kernel
theorem dX12_log_37 : decode cX12_log 37 = .ok (.iload_n 3, 1) := by decide +kernel
theorem dX12_log_38 : decode cX12_log 38 = .ok (.iconst 1, 1) := by decide +kernel
theorem dX12_log_39 : decode cX12_log 39 = .ok (.isub, 1) := by decide +kernel
theorem dX12_log_40 : decode cX12_log 40 = .ok (.i2l, 1) := by decide +kernel
theorem dX12_log_41 : decode cX12_log 41 = .ok (.invokestatic 147, 3) := by decide +kernel
theorem dX12_log_44 : decode cX12_log 44 = .ok (.ifCond .ne 5, 3) := by decide +kernel
theorem dX12_log_47 : decode cX12_log 47 = .ok (.iconst (-1), 1) := by decide +kernel
theorem dX12_log_48 : decode cX12_log 48 = .ok (.ireturn, 1) := by decide +kernel
theorem dX12_log_49 : decode cX12_log 49 = .ok (.aload_n 0, 1) := by decide +kernel
theorem dX12_log_50 : decode cX12_log 50 = .ok (.getfield 174, 3) := by decide +kernel
theorem dX12_log_53 : decode cX12_log 53 = .ok (.iconst 1, 1) := by decide +kernel
theorem dX12_log_54 : decode cX12_log 54 = .ok (.isub, 1) := by decide +kernel
theorem dX12_log_55 : decode cX12_log 55 = .ok (.iload_n 1, 1) := by decide +kernel
theorem dX12_log_56 : decode cX12_log 56 = .ok (.isub, 1) := by decide +kernel
theorem dX12_log_57 : decode cX12_log 57 = .ok (.bipush 60, 2) := by decide +kernel
theorem dX12_log_59 : decode cX12_log 59 = .ok (.irem, 1) := by decide +kernel
theorem dX12_log_60 : decode cX12_log 60 = .ok (.istore 4, 2) := by decide +kernel
theorem dX12_log_62 : decode cX12_log 62 = .ok (.iload_n 2, 1) := by decide +kernel
theorem dX12_log_63 : decode cX12_log 63 = .ok (.ifCond .ne 13, 3) := by decide +kernel
theorem dX12_log_66 : decode cX12_log 66 = .ok (.aload_n 0, 1) := by decide +kernel
theorem dX12_log_67 : decode cX12_log 67 = .ok (.getfield 38, 3) := by decide +kernel
theorem dX12_log_70 : decode cX12_log 70 = .ok (.iload 4, 2) := by decide +kernel
theorem dX12_log_72 : decode cX12_log 72 = .ok (.iaload, 1) := by decide +kernel
theorem dX12_log_73 : decode cX12_log 73 = .ok (.goto 25, 3) := by decide +kernel
theorem dX12_log_76 : decode cX12_log 76 = .ok (.iload_n 2, 1) := by decide +kernel
theorem dX12_log_77 : decode cX12_log 77 = .ok (.iconst 1, 1) := by decide +kernel
theorem dX12_log_78 : decode cX12_log 78 = .ok (.if_icmp .ne 13, 3) := by decide +kernel
theorem dX12_log_81 : decode cX12_log 81 = .ok (.aload_n 0, 1) := by decide +kernel
theorem dX12_log_82 : decode cX12_log 82 = .ok (.getfield 41, 3) := by decide +kernel
theorem dX12_log_85 : decode cX12_log 85 = .ok (.iload 4, 2) := by decide +kernel
theorem dX12_log_87 : decode cX12_log 87 = .ok (.iaload, 1) := by decide +kernel
theorem dX12_log_88 : decode cX12_log 88 = .ok (.goto 10, 3) := by decide +kernel
theorem dX12_log_91 : decode cX12_log 91 = .ok (.aload_n 0, 1) := by decide +kernel
theorem dX12_log_92 : decode cX12_log 92 = .ok (.getfield 44, 3) := by decide +kernel
theorem dX12_log_95 : decode cX12_log 95 = .ok (.iload 4, 2) := by decide +kernel
theorem dX12_log_97 : decode cX12_log 97 = .ok (.iaload, 1) := by decide +kernel
theorem dX12_log_98 : decode cX12_log 98 = .ok (.ireturn, 1) := by decide +kernel
theorem dJ9_min_7cf53_0 : decode cJ9_min_7cf53 0 = .ok (.iload_n 0, 1) := by decide +kernel
theorem dJ9_min_7cf53_1 : decode cJ9_min_7cf53 1 = .ok (.iload_n 1, 1) := by decide +kernel
theorem dJ9_min_7cf53_2 : decode cJ9_min_7cf53 2 = .ok (.if_icmp .gt 7, 3) := by decide +kernel
theorem dJ9_min_7cf53_5 : decode cJ9_min_7cf53 5 = .ok (.iload_n 0, 1) := by decide +kernel
theorem dJ9_min_7cf53_6 : decode cJ9_min_7cf53 6 = .ok (.goto 4, 3) := by decide +kernel
theorem dJ9_min_7cf53_9 : decode cJ9_min_7cf53 9 = .ok (.iload_n 1, 1) := by decide +kernel
theorem dJ9_min_7cf53_10 : decode cJ9_min_7cf53 10 = .ok (.ireturn, 1) := by decide +kernel
theorem dL_law_0 : decode cL_law 0 = .ok (.new 7, 3) := by decide +kernel
theorem dL_law_3 : decode cL_law 3 = .ok (.dup, 1) := by decide +kernel
theorem dL_law_4 : decode cL_law 4 = .ok (.invokespecial 9, 3) := by decide +kernel
theorem dL_law_7 : decode cL_law 7 = .ok (.astore_n 1, 1) := by decide +kernel
theorem dL_law_8 : decode cL_law 8 = .ok (.new 10, 3) := by decide +kernel
theorem dL_law_11 : decode cL_law 11 = .ok (.dup, 1) := by decide +kernel
theorem dL_law_12 : decode cL_law 12 = .ok (.invokespecial 12, 3) := by decide +kernel
theorem dL_law_15 : decode cL_law 15 = .ok (.astore_n 2, 1) := by decide +kernel
theorem dL_law_16 : decode cL_law 16 = .ok (.iconst 0, 1) := by decide +kernel
theorem dL_law_17 : decode cL_law 17 = .ok (.istore_n 3, 1) := by decide +kernel
theorem dL_law_18 : decode cL_law 18 = .ok (.iload_n 3, 1) := by decide +kernel
theorem dL_law_19 : decode cL_law 19 = .ok (.aload_n 0, 1) := by decide +kernel
theorem dL_law_20 : decode cL_law 20 = .ok (.arraylength, 1) := by decide +kernel
theorem dL_law_21 : decode cL_law 21 = .ok (.iconst 5, 1) := by decide +kernel
theorem dL_law_22 : decode cL_law 22 = .ok (.isub, 1) := by decide +kernel
theorem dL_law_23 : decode cL_law 23 = .ok (.if_icmp .gt 681, 3) := by decide +kernel
theorem dL_law_26 : decode cL_law 26 = .ok (.aload_n 0, 1) := by decide +kernel
theorem dL_law_27 : decode cL_law 27 = .ok (.iload_n 3, 1) := by decide +kernel
theorem dL_law_28 : decode cL_law 28 = .ok (.iaload, 1) := by decide +kernel
theorem dL_law_29 : decode cL_law 29 = .ok (.bipush 31, 2) := by decide +kernel
theorem dL_law_31 : decode cL_law 31 = .ok (.iand, 1) := by decide +kernel
theorem dL_law_32 : decode cL_law 32 = .ok (.tableswitch 666 0 18 #[92, 125, 148, 171, 194, 237, 276, 289, 342, 365, 398, 431, 454, 487, 500, 533, 576, 599, 633], 92) := by decide +kernel
theorem dL_law_124 : decode cL_law 124 = .ok (.aload_n 1, 1) := by decide +kernel
theorem dL_law_125 : decode cL_law 125 = .ok (.aload_n 0, 1) := by decide +kernel
theorem dL_law_126 : decode cL_law 126 = .ok (.iload_n 3, 1) := by decide +kernel
theorem dL_law_127 : decode cL_law 127 = .ok (.iconst 1, 1) := by decide +kernel
theorem dL_law_128 : decode cL_law 128 = .ok (.iadd, 1) := by decide +kernel
theorem dL_law_129 : decode cL_law 129 = .ok (.iaload, 1) := by decide +kernel
theorem dL_law_130 : decode cL_law 130 = .ok (.aload_n 0, 1) := by decide +kernel
theorem dL_law_131 : decode cL_law 131 = .ok (.iload_n 3, 1) := by decide +kernel
theorem dL_law_132 : decode cL_law 132 = .ok (.iconst 2, 1) := by decide +kernel
theorem dL_law_133 : decode cL_law 133 = .ok (.iadd, 1) := by decide +kernel
theorem dL_law_134 : decode cL_law 134 = .ok (.iaload, 1) := by decide +kernel
theorem dL_law_135 : decode cL_law 135 = .ok (.invokevirtual 13, 3) := by decide +kernel
theorem dL_law_138 : decode cL_law 138 = .ok (.aload_n 2, 1) := by decide +kernel
theorem dL_law_139 : decode cL_law 139 = .ok (.aload_n 0, 1) := by decide +kernel
theorem dL_law_140 : decode cL_law 140 = .ok (.iload_n 3, 1) := by decide +kernel
theorem dL_law_141 : decode cL_law 141 = .ok (.iconst 1, 1) := by decide +kernel
theorem dL_law_142 : decode cL_law 142 = .ok (.iadd, 1) := by decide +kernel
theorem dL_law_143 : decode cL_law 143 = .ok (.iaload, 1) := by decide +kernel
theorem dL_law_144 : decode cL_law 144 = .ok (.aload_n 0, 1) := by decide +kernel
theorem dL_law_145 : decode cL_law 145 = .ok (.iload_n 3, 1) := by decide +kernel
theorem dL_law_146 : decode cL_law 146 = .ok (.iconst 2, 1) := by decide +kernel
theorem dL_law_147 : decode cL_law 147 = .ok (.iadd, 1) := by decide +kernel
theorem dL_law_148 : decode cL_law 148 = .ok (.iaload, 1) := by decide +kernel
theorem dL_law_149 : decode cL_law 149 = .ok (.invokevirtual 17, 3) := by decide +kernel
theorem dL_law_152 : decode cL_law 152 = .ok (.if_icmp .eq 546, 3) := by decide +kernel
theorem dL_law_155 : decode cL_law 155 = .ok (.iconst 0, 1) := by decide +kernel
theorem dL_law_156 : decode cL_law 156 = .ok (.ireturn, 1) := by decide +kernel
theorem dL_law_157 : decode cL_law 157 = .ok (.aload_n 1, 1) := by decide +kernel
theorem dL_law_158 : decode cL_law 158 = .ok (.aload_n 0, 1) := by decide +kernel
theorem dL_law_159 : decode cL_law 159 = .ok (.iload_n 3, 1) := by decide +kernel
theorem dL_law_160 : decode cL_law 160 = .ok (.iconst 1, 1) := by decide +kernel
theorem dL_law_161 : decode cL_law 161 = .ok (.iadd, 1) := by decide +kernel
theorem dL_law_162 : decode cL_law 162 = .ok (.iaload, 1) := by decide +kernel
theorem dL_law_163 : decode cL_law 163 = .ok (.invokevirtual 18, 3) := by decide +kernel
theorem dL_law_166 : decode cL_law 166 = .ok (.aload_n 2, 1) := by decide +kernel
theorem dL_law_167 : decode cL_law 167 = .ok (.aload_n 0, 1) := by decide +kernel
theorem dL_law_168 : decode cL_law 168 = .ok (.iload_n 3, 1) := by decide +kernel
theorem dL_law_169 : decode cL_law 169 = .ok (.iconst 1, 1) := by decide +kernel
theorem dL_law_170 : decode cL_law 170 = .ok (.iadd, 1) := by decide +kernel
theorem dL_law_171 : decode cL_law 171 = .ok (.iaload, 1) := by decide +kernel
theorem dL_law_172 : decode cL_law 172 = .ok (.invokevirtual 22, 3) := by decide +kernel
theorem dL_law_175 : decode cL_law 175 = .ok (.if_icmp .eq 523, 3) := by decide +kernel
theorem dL_law_178 : decode cL_law 178 = .ok (.iconst 0, 1) := by decide +kernel
theorem dL_law_179 : decode cL_law 179 = .ok (.ireturn, 1) := by decide +kernel
theorem dL_law_180 : decode cL_law 180 = .ok (.aload_n 1, 1) := by decide +kernel
theorem dL_law_181 : decode cL_law 181 = .ok (.aload_n 0, 1) := by decide +kernel
theorem dL_law_182 : decode cL_law 182 = .ok (.iload_n 3, 1) := by decide +kernel
theorem dL_law_183 : decode cL_law 183 = .ok (.iconst 1, 1) := by decide +kernel
theorem dL_law_184 : decode cL_law 184 = .ok (.iadd, 1) := by decide +kernel
theorem dL_law_185 : decode cL_law 185 = .ok (.iaload, 1) := by decide +kernel
theorem dL_law_186 : decode cL_law 186 = .ok (.invokevirtual 23, 3) := by decide +kernel
theorem dL_law_189 : decode cL_law 189 = .ok (.aload_n 2, 1) := by decide +kernel
theorem dL_law_190 : decode cL_law 190 = .ok (.aload_n 0, 1) := by decide +kernel
theorem dL_law_191 : decode cL_law 191 = .ok (.iload_n 3, 1) := by decide +kernel
theorem dL_law_192 : decode cL_law 192 = .ok (.iconst 1, 1) := by decide +kernel
theorem dL_law_193 : decode cL_law 193 = .ok (.iadd, 1) := by decide +kernel
theorem dL_law_194 : decode cL_law 194 = .ok (.iaload, 1) := by decide +kernel
theorem dL_law_195 : decode cL_law 195 = .ok (.invokevirtual 26, 3) := by decide +kernel
theorem dL_law_198 : decode cL_law 198 = .ok (.if_icmp .eq 500, 3) := by decide +kernel
theorem dL_law_201 : decode cL_law 201 = .ok (.iconst 0, 1) := by decide +kernel
theorem dL_law_202 : decode cL_law 202 = .ok (.ireturn, 1) := by decide +kernel
theorem dL_law_203 : decode cL_law 203 = .ok (.aload_n 1, 1) := by decide +kernel
theorem dL_law_204 : decode cL_law 204 = .ok (.aload_n 0, 1) := by decide +kernel
theorem dL_law_205 : decode cL_law 205 = .ok (.iload_n 3, 1) := by decide +kernel
theorem dL_law_206 : decode cL_law 206 = .ok (.iconst 1, 1) := by decide +kernel
theorem dL_law_207 : decode cL_law 207 = .ok (.iadd, 1) := by decide +kernel
theorem dL_law_208 : decode cL_law 208 = .ok (.iaload, 1) := by decide +kernel
theorem dL_law_209 : decode cL_law 209 = .ok (.invokevirtual 27, 3) := by decide +kernel
theorem dL_law_212 : decode cL_law 212 = .ok (.aload_n 2, 1) := by decide +kernel
theorem dL_law_213 : decode cL_law 213 = .ok (.aload_n 0, 1) := by decide +kernel
theorem dL_law_214 : decode cL_law 214 = .ok (.iload_n 3, 1) := by decide +kernel
theorem dL_law_215 : decode cL_law 215 = .ok (.iconst 1, 1) := by decide +kernel
theorem dL_law_216 : decode cL_law 216 = .ok (.iadd, 1) := by decide +kernel
theorem dL_law_217 : decode cL_law 217 = .ok (.iaload, 1) := by decide +kernel
theorem dL_law_218 : decode cL_law 218 = .ok (.invokevirtual 30, 3) := by decide +kernel
theorem dL_law_221 : decode cL_law 221 = .ok (.if_icmp .eq 477, 3) := by decide +kernel
theorem dL_law_224 : decode cL_law 224 = .ok (.iconst 0, 1) := by decide +kernel
theorem dL_law_225 : decode cL_law 225 = .ok (.ireturn, 1) := by decide +kernel
theorem dL_law_226 : decode cL_law 226 = .ok (.aload_n 1, 1) := by decide +kernel
theorem dL_law_227 : decode cL_law 227 = .ok (.aload_n 0, 1) := by decide +kernel
theorem dL_law_228 : decode cL_law 228 = .ok (.iload_n 3, 1) := by decide +kernel
theorem dL_law_229 : decode cL_law 229 = .ok (.iconst 1, 1) := by decide +kernel
theorem dL_law_230 : decode cL_law 230 = .ok (.iadd, 1) := by decide +kernel
theorem dL_law_231 : decode cL_law 231 = .ok (.iaload, 1) := by decide +kernel
theorem dL_law_232 : decode cL_law 232 = .ok (.aload_n 0, 1) := by decide +kernel
theorem dL_law_233 : decode cL_law 233 = .ok (.iload_n 3, 1) := by decide +kernel
theorem dL_law_234 : decode cL_law 234 = .ok (.iconst 2, 1) := by decide +kernel
theorem dL_law_235 : decode cL_law 235 = .ok (.iadd, 1) := by decide +kernel
theorem dL_law_236 : decode cL_law 236 = .ok (.iaload, 1) := by decide +kernel
theorem dL_law_237 : decode cL_law 237 = .ok (.aload_n 0, 1) := by decide +kernel
theorem dL_law_238 : decode cL_law 238 = .ok (.iload_n 3, 1) := by decide +kernel
theorem dL_law_239 : decode cL_law 239 = .ok (.iconst 3, 1) := by decide +kernel
theorem dL_law_240 : decode cL_law 240 = .ok (.iadd, 1) := by decide +kernel
theorem dL_law_241 : decode cL_law 241 = .ok (.iaload, 1) := by decide +kernel
theorem dL_law_242 : decode cL_law 242 = .ok (.invokevirtual 31, 3) := by decide +kernel
theorem dL_law_245 : decode cL_law 245 = .ok (.aload_n 2, 1) := by decide +kernel
theorem dL_law_246 : decode cL_law 246 = .ok (.aload_n 0, 1) := by decide +kernel
theorem dL_law_247 : decode cL_law 247 = .ok (.iload_n 3, 1) := by decide +kernel
theorem dL_law_248 : decode cL_law 248 = .ok (.iconst 1, 1) := by decide +kernel
theorem dL_law_249 : decode cL_law 249 = .ok (.iadd, 1) := by decide +kernel
theorem dL_law_250 : decode cL_law 250 = .ok (.iaload, 1) := by decide +kernel
theorem dL_law_251 : decode cL_law 251 = .ok (.aload_n 0, 1) := by decide +kernel
theorem dL_law_252 : decode cL_law 252 = .ok (.iload_n 3, 1) := by decide +kernel
theorem dL_law_253 : decode cL_law 253 = .ok (.iconst 2, 1) := by decide +kernel
theorem dL_law_254 : decode cL_law 254 = .ok (.iadd, 1) := by decide +kernel
theorem dL_law_255 : decode cL_law 255 = .ok (.iaload, 1) := by decide +kernel
theorem dL_law_256 : decode cL_law 256 = .ok (.aload_n 0, 1) := by decide +kernel
theorem dL_law_257 : decode cL_law 257 = .ok (.iload_n 3, 1) := by decide +kernel
theorem dL_law_258 : decode cL_law 258 = .ok (.iconst 3, 1) := by decide +kernel
theorem dL_law_259 : decode cL_law 259 = .ok (.iadd, 1) := by decide +kernel
theorem dL_law_260 : decode cL_law 260 = .ok (.iaload, 1) := by decide +kernel
theorem dL_law_261 : decode cL_law 261 = .ok (.invokevirtual 35, 3) := by decide +kernel
theorem dL_law_264 : decode cL_law 264 = .ok (.if_icmp .eq 434, 3) := by decide +kernel
theorem dL_law_267 : decode cL_law 267 = .ok (.iconst 0, 1) := by decide +kernel
theorem dL_law_268 : decode cL_law 268 = .ok (.ireturn, 1) := by decide +kernel
theorem dL_law_269 : decode cL_law 269 = .ok (.aload_n 1, 1) := by decide +kernel
theorem dL_law_270 : decode cL_law 270 = .ok (.aload_n 0, 1) := by decide +kernel
theorem dL_law_271 : decode cL_law 271 = .ok (.iload_n 3, 1) := by decide +kernel
theorem dL_law_272 : decode cL_law 272 = .ok (.iconst 1, 1) := by decide +kernel
theorem dL_law_273 : decode cL_law 273 = .ok (.iadd, 1) := by decide +kernel
theorem dL_law_274 : decode cL_law 274 = .ok (.iaload, 1) := by decide +kernel
theorem dL_law_275 : decode cL_law 275 = .ok (.ifCond .eq 7, 3) := by decide +kernel
theorem dL_law_278 : decode cL_law 278 = .ok (.iconst 1, 1) := by decide +kernel
theorem dL_law_279 : decode cL_law 279 = .ok (.goto 4, 3) := by decide +kernel
theorem dL_law_282 : decode cL_law 282 = .ok (.iconst 0, 1) := by decide +kernel
theorem dL_law_283 : decode cL_law 283 = .ok (.invokevirtual 36, 3) := by decide +kernel
theorem dL_law_286 : decode cL_law 286 = .ok (.aload_n 2, 1) := by decide +kernel
theorem dL_law_287 : decode cL_law 287 = .ok (.aload_n 0, 1) := by decide +kernel
theorem dL_law_288 : decode cL_law 288 = .ok (.iload_n 3, 1) := by decide +kernel
theorem dL_law_289 : decode cL_law 289 = .ok (.iconst 1, 1) := by decide +kernel
theorem dL_law_290 : decode cL_law 290 = .ok (.iadd, 1) := by decide +kernel
theorem dL_law_291 : decode cL_law 291 = .ok (.iaload, 1) := by decide +kernel
theorem dL_law_292 : decode cL_law 292 = .ok (.ifCond .eq 7, 3) := by decide +kernel
theorem dL_law_295 : decode cL_law 295 = .ok (.iconst 1, 1) := by decide +kernel
theorem dL_law_296 : decode cL_law 296 = .ok (.goto 4, 3) := by decide +kernel
theorem dL_law_299 : decode cL_law 299 = .ok (.iconst 0, 1) := by decide +kernel
theorem dL_law_300 : decode cL_law 300 = .ok (.invokevirtual 40, 3) := by decide +kernel
theorem dL_law_303 : decode cL_law 303 = .ok (.if_icmp .eq 395, 3) := by decide +kernel
theorem dL_law_306 : decode cL_law 306 = .ok (.iconst 0, 1) := by decide +kernel
theorem dL_law_307 : decode cL_law 307 = .ok (.ireturn, 1) := by decide +kernel
theorem dL_law_308 : decode cL_law 308 = .ok (.aload_n 1, 1) := by decide +kernel
theorem dL_law_309 : decode cL_law 309 = .ok (.invokevirtual 41, 3) := by decide +kernel
theorem dL_law_312 : decode cL_law 312 = .ok (.aload_n 2, 1) := by decide +kernel
theorem dL_law_313 : decode cL_law 313 = .ok (.invokevirtual 45, 3) := by decide +kernel
theorem dL_law_316 : decode cL_law 316 = .ok (.if_icmp .eq 382, 3) := by decide +kernel
theorem dL_law_319 : decode cL_law 319 = .ok (.iconst 0, 1) := by decide +kernel
theorem dL_law_320 : decode cL_law 320 = .ok (.ireturn, 1) := by decide +kernel
theorem dL_law_321 : decode cL_law 321 = .ok (.aload_n 1, 1) := by decide +kernel
theorem dL_law_322 : decode cL_law 322 = .ok (.aload_n 0, 1) := by decide +kernel
theorem dL_law_323 : decode cL_law 323 = .ok (.iload_n 3, 1) := by decide +kernel
theorem dL_law_324 : decode cL_law 324 = .ok (.iconst 1, 1) := by decide +kernel
theorem dL_law_325 : decode cL_law 325 = .ok (.iadd, 1) := by decide +kernel
theorem dL_law_326 : decode cL_law 326 = .ok (.iaload, 1) := by decide +kernel
theorem dL_law_327 : decode cL_law 327 = .ok (.aload_n 0, 1) := by decide +kernel
theorem dL_law_328 : decode cL_law 328 = .ok (.iload_n 3, 1) := by decide +kernel
theorem dL_law_329 : decode cL_law 329 = .ok (.iconst 2, 1) := by decide +kernel
theorem dL_law_330 : decode cL_law 330 = .ok (.iadd, 1) := by decide +kernel
theorem dL_law_331 : decode cL_law 331 = .ok (.iaload, 1) := by decide +kernel
theorem dL_law_332 : decode cL_law 332 = .ok (.aload_n 0, 1) := by decide +kernel
theorem dL_law_333 : decode cL_law 333 = .ok (.iload_n 3, 1) := by decide +kernel
theorem dL_law_334 : decode cL_law 334 = .ok (.iconst 3, 1) := by decide +kernel
theorem dL_law_335 : decode cL_law 335 = .ok (.iadd, 1) := by decide +kernel
theorem dL_law_336 : decode cL_law 336 = .ok (.iaload, 1) := by decide +kernel
theorem dL_law_337 : decode cL_law 337 = .ok (.aload_n 0, 1) := by decide +kernel
theorem dL_law_338 : decode cL_law 338 = .ok (.iload_n 3, 1) := by decide +kernel
theorem dL_law_339 : decode cL_law 339 = .ok (.iconst 4, 1) := by decide +kernel
theorem dL_law_340 : decode cL_law 340 = .ok (.iadd, 1) := by decide +kernel
theorem dL_law_341 : decode cL_law 341 = .ok (.iaload, 1) := by decide +kernel
theorem dL_law_342 : decode cL_law 342 = .ok (.invokevirtual 46, 3) := by decide +kernel
theorem dL_law_345 : decode cL_law 345 = .ok (.aload_n 2, 1) := by decide +kernel
theorem dL_law_346 : decode cL_law 346 = .ok (.aload_n 0, 1) := by decide +kernel
theorem dL_law_347 : decode cL_law 347 = .ok (.iload_n 3, 1) := by decide +kernel
theorem dL_law_348 : decode cL_law 348 = .ok (.iconst 1, 1) := by decide +kernel
theorem dL_law_349 : decode cL_law 349 = .ok (.iadd, 1) := by decide +kernel
theorem dL_law_350 : decode cL_law 350 = .ok (.iaload, 1) := by decide +kernel
theorem dL_law_351 : decode cL_law 351 = .ok (.aload_n 0, 1) := by decide +kernel
theorem dL_law_352 : decode cL_law 352 = .ok (.iload_n 3, 1) := by decide +kernel
theorem dL_law_353 : decode cL_law 353 = .ok (.iconst 2, 1) := by decide +kernel
theorem dL_law_354 : decode cL_law 354 = .ok (.iadd, 1) := by decide +kernel
theorem dL_law_355 : decode cL_law 355 = .ok (.iaload, 1) := by decide +kernel
theorem dL_law_356 : decode cL_law 356 = .ok (.aload_n 0, 1) := by decide +kernel
theorem dL_law_357 : decode cL_law 357 = .ok (.iload_n 3, 1) := by decide +kernel
theorem dL_law_358 : decode cL_law 358 = .ok (.iconst 3, 1) := by decide +kernel
theorem dL_law_359 : decode cL_law 359 = .ok (.iadd, 1) := by decide +kernel
theorem dL_law_360 : decode cL_law 360 = .ok (.iaload, 1) := by decide +kernel
theorem dL_law_361 : decode cL_law 361 = .ok (.aload_n 0, 1) := by decide +kernel
theorem dL_law_362 : decode cL_law 362 = .ok (.iload_n 3, 1) := by decide +kernel
theorem dL_law_363 : decode cL_law 363 = .ok (.iconst 4, 1) := by decide +kernel
theorem dL_law_364 : decode cL_law 364 = .ok (.iadd, 1) := by decide +kernel
theorem dL_law_365 : decode cL_law 365 = .ok (.iaload, 1) := by decide +kernel
theorem dL_law_366 : decode cL_law 366 = .ok (.invokevirtual 50, 3) := by decide +kernel
theorem dL_law_369 : decode cL_law 369 = .ok (.if_icmp .eq 329, 3) := by decide +kernel
theorem dL_law_372 : decode cL_law 372 = .ok (.iconst 0, 1) := by decide +kernel
theorem dL_law_373 : decode cL_law 373 = .ok (.ireturn, 1) := by decide +kernel
theorem dL_law_374 : decode cL_law 374 = .ok (.aload_n 1, 1) := by decide +kernel
theorem dL_law_375 : decode cL_law 375 = .ok (.aload_n 0, 1) := by decide +kernel
theorem dL_law_376 : decode cL_law 376 = .ok (.iload_n 3, 1) := by decide +kernel
theorem dL_law_377 : decode cL_law 377 = .ok (.iconst 1, 1) := by decide +kernel
theorem dL_law_378 : decode cL_law 378 = .ok (.iadd, 1) := by decide +kernel
theorem dL_law_379 : decode cL_law 379 = .ok (.iaload, 1) := by decide +kernel
theorem dL_law_380 : decode cL_law 380 = .ok (.invokevirtual 51, 3) := by decide +kernel
theorem dL_law_383 : decode cL_law 383 = .ok (.aload_n 2, 1) := by decide +kernel
theorem dL_law_384 : decode cL_law 384 = .ok (.aload_n 0, 1) := by decide +kernel
theorem dL_law_385 : decode cL_law 385 = .ok (.iload_n 3, 1) := by decide +kernel
theorem dL_law_386 : decode cL_law 386 = .ok (.iconst 1, 1) := by decide +kernel
theorem dL_law_387 : decode cL_law 387 = .ok (.iadd, 1) := by decide +kernel
theorem dL_law_388 : decode cL_law 388 = .ok (.iaload, 1) := by decide +kernel
theorem dL_law_389 : decode cL_law 389 = .ok (.invokevirtual 54, 3) := by decide +kernel
theorem dL_law_392 : decode cL_law 392 = .ok (.if_icmp .eq 306, 3) := by decide +kernel
theorem dL_law_395 : decode cL_law 395 = .ok (.iconst 0, 1) := by decide +kernel
theorem dL_law_396 : decode cL_law 396 = .ok (.ireturn, 1) := by decide +kernel
theorem dL_law_397 : decode cL_law 397 = .ok (.aload_n 1, 1) := by decide +kernel
theorem dL_law_398 : decode cL_law 398 = .ok (.aload_n 0, 1) := by decide +kernel
theorem dL_law_399 : decode cL_law 399 = .ok (.iload_n 3, 1) := by decide +kernel
theorem dL_law_400 : decode cL_law 400 = .ok (.iconst 1, 1) := by decide +kernel
theorem dL_law_401 : decode cL_law 401 = .ok (.iadd, 1) := by decide +kernel
theorem dL_law_402 : decode cL_law 402 = .ok (.iaload, 1) := by decide +kernel
theorem dL_law_403 : decode cL_law 403 = .ok (.aload_n 0, 1) := by decide +kernel
theorem dL_law_404 : decode cL_law 404 = .ok (.iload_n 3, 1) := by decide +kernel
theorem dL_law_405 : decode cL_law 405 = .ok (.iconst 2, 1) := by decide +kernel
theorem dL_law_406 : decode cL_law 406 = .ok (.iadd, 1) := by decide +kernel
theorem dL_law_407 : decode cL_law 407 = .ok (.iaload, 1) := by decide +kernel
theorem dL_law_408 : decode cL_law 408 = .ok (.invokevirtual 55, 3) := by decide +kernel
theorem dL_law_411 : decode cL_law 411 = .ok (.aload_n 2, 1) := by decide +kernel
theorem dL_law_412 : decode cL_law 412 = .ok (.aload_n 0, 1) := by decide +kernel
theorem dL_law_413 : decode cL_law 413 = .ok (.iload_n 3, 1) := by decide +kernel
theorem dL_law_414 : decode cL_law 414 = .ok (.iconst 1, 1) := by decide +kernel
theorem dL_law_415 : decode cL_law 415 = .ok (.iadd, 1) := by decide +kernel
theorem dL_law_416 : decode cL_law 416 = .ok (.iaload, 1) := by decide +kernel
theorem dL_law_417 : decode cL_law 417 = .ok (.aload_n 0, 1) := by decide +kernel
theorem dL_law_418 : decode cL_law 418 = .ok (.iload_n 3, 1) := by decide +kernel
theorem dL_law_419 : decode cL_law 419 = .ok (.iconst 2, 1) := by decide +kernel
theorem dL_law_420 : decode cL_law 420 = .ok (.iadd, 1) := by decide +kernel
theorem dL_law_421 : decode cL_law 421 = .ok (.iaload, 1) := by decide +kernel
theorem dL_law_422 : decode cL_law 422 = .ok (.invokevirtual 58, 3) := by decide +kernel
theorem dL_law_425 : decode cL_law 425 = .ok (.if_icmp .eq 273, 3) := by decide +kernel
theorem dL_law_428 : decode cL_law 428 = .ok (.iconst 0, 1) := by decide +kernel
theorem dL_law_429 : decode cL_law 429 = .ok (.ireturn, 1) := by decide +kernel
theorem dL_law_430 : decode cL_law 430 = .ok (.aload_n 1, 1) := by decide +kernel
theorem dL_law_431 : decode cL_law 431 = .ok (.aload_n 0, 1) := by decide +kernel
theorem dL_law_432 : decode cL_law 432 = .ok (.iload_n 3, 1) := by decide +kernel
theorem dL_law_433 : decode cL_law 433 = .ok (.iconst 1, 1) := by decide +kernel
theorem dL_law_434 : decode cL_law 434 = .ok (.iadd, 1) := by decide +kernel
theorem dL_law_435 : decode cL_law 435 = .ok (.iaload, 1) := by decide +kernel
theorem dL_law_436 : decode cL_law 436 = .ok (.aload_n 0, 1) := by decide +kernel
theorem dL_law_437 : decode cL_law 437 = .ok (.iload_n 3, 1) := by decide +kernel
theorem dL_law_438 : decode cL_law 438 = .ok (.iconst 2, 1) := by decide +kernel
theorem dL_law_439 : decode cL_law 439 = .ok (.iadd, 1) := by decide +kernel
theorem dL_law_440 : decode cL_law 440 = .ok (.iaload, 1) := by decide +kernel
theorem dL_law_441 : decode cL_law 441 = .ok (.invokevirtual 59, 3) := by decide +kernel
theorem dL_law_444 : decode cL_law 444 = .ok (.aload_n 2, 1) := by decide +kernel
theorem dL_law_445 : decode cL_law 445 = .ok (.aload_n 0, 1) := by decide +kernel
theorem dL_law_446 : decode cL_law 446 = .ok (.iload_n 3, 1) := by decide +kernel
theorem dL_law_447 : decode cL_law 447 = .ok (.iconst 1, 1) := by decide +kernel
theorem dL_law_448 : decode cL_law 448 = .ok (.iadd, 1) := by decide +kernel
theorem dL_law_449 : decode cL_law 449 = .ok (.iaload, 1) := by decide +kernel
theorem dL_law_450 : decode cL_law 450 = .ok (.aload_n 0, 1) := by decide +kernel
theorem dL_law_451 : decode cL_law 451 = .ok (.iload_n 3, 1) := by decide +kernel
theorem dL_law_452 : decode cL_law 452 = .ok (.iconst 2, 1) := by decide +kernel
theorem dL_law_453 : decode cL_law 453 = .ok (.iadd, 1) := by decide +kernel
theorem dL_law_454 : decode cL_law 454 = .ok (.iaload, 1) := by decide +kernel
theorem dL_law_455 : decode cL_law 455 = .ok (.invokevirtual 62, 3) := by decide +kernel
theorem dL_law_458 : decode cL_law 458 = .ok (.if_icmp .eq 240, 3) := by decide +kernel
theorem dL_law_461 : decode cL_law 461 = .ok (.iconst 0, 1) := by decide +kernel
theorem dL_law_462 : decode cL_law 462 = .ok (.ireturn, 1) := by decide +kernel
theorem dL_law_463 : decode cL_law 463 = .ok (.aload_n 1, 1) := by decide +kernel
theorem dL_law_464 : decode cL_law 464 = .ok (.aload_n 0, 1) := by decide +kernel
theorem dL_law_465 : decode cL_law 465 = .ok (.iload_n 3, 1) := by decide +kernel
theorem dL_law_466 : decode cL_law 466 = .ok (.iconst 1, 1) := by decide +kernel
theorem dL_law_467 : decode cL_law 467 = .ok (.iadd, 1) := by decide +kernel
theorem dL_law_468 : decode cL_law 468 = .ok (.iaload, 1) := by decide +kernel
theorem dL_law_469 : decode cL_law 469 = .ok (.invokevirtual 63, 3) := by decide +kernel
theorem dL_law_472 : decode cL_law 472 = .ok (.aload_n 2, 1) := by decide +kernel
theorem dL_law_473 : decode cL_law 473 = .ok (.aload_n 0, 1) := by decide +kernel
theorem dL_law_474 : decode cL_law 474 = .ok (.iload_n 3, 1) := by decide +kernel
theorem dL_law_475 : decode cL_law 475 = .ok (.iconst 1, 1) := by decide +kernel
theorem dL_law_476 : decode cL_law 476 = .ok (.iadd, 1) := by decide +kernel
theorem dL_law_477 : decode cL_law 477 = .ok (.iaload, 1) := by decide +kernel
theorem dL_law_478 : decode cL_law 478 = .ok (.invokevirtual 66, 3) := by decide +kernel
theorem dL_law_481 : decode cL_law 481 = .ok (.if_icmp .eq 217, 3) := by decide +kernel
theorem dL_law_484 : decode cL_law 484 = .ok (.iconst 0, 1) := by decide +kernel
theorem dL_law_485 : decode cL_law 485 = .ok (.ireturn, 1) := by decide +kernel
theorem dL_law_486 : decode cL_law 486 = .ok (.aload_n 1, 1) := by decide +kernel
theorem dL_law_487 : decode cL_law 487 = .ok (.aload_n 0, 1) := by decide +kernel
theorem dL_law_488 : decode cL_law 488 = .ok (.iload_n 3, 1) := by decide +kernel
theorem dL_law_489 : decode cL_law 489 = .ok (.iconst 1, 1) := by decide +kernel
theorem dL_law_490 : decode cL_law 490 = .ok (.iadd, 1) := by decide +kernel
theorem dL_law_491 : decode cL_law 491 = .ok (.iaload, 1) := by decide +kernel
theorem dL_law_492 : decode cL_law 492 = .ok (.aload_n 0, 1) := by decide +kernel
theorem dL_law_493 : decode cL_law 493 = .ok (.iload_n 3, 1) := by decide +kernel
theorem dL_law_494 : decode cL_law 494 = .ok (.iconst 2, 1) := by decide +kernel
theorem dL_law_495 : decode cL_law 495 = .ok (.iadd, 1) := by decide +kernel
theorem dL_law_496 : decode cL_law 496 = .ok (.iaload, 1) := by decide +kernel
theorem dL_law_497 : decode cL_law 497 = .ok (.invokevirtual 67, 3) := by decide +kernel
theorem dL_law_500 : decode cL_law 500 = .ok (.aload_n 2, 1) := by decide +kernel
theorem dL_law_501 : decode cL_law 501 = .ok (.aload_n 0, 1) := by decide +kernel
theorem dL_law_502 : decode cL_law 502 = .ok (.iload_n 3, 1) := by decide +kernel
theorem dL_law_503 : decode cL_law 503 = .ok (.iconst 1, 1) := by decide +kernel
theorem dL_law_504 : decode cL_law 504 = .ok (.iadd, 1) := by decide +kernel
theorem dL_law_505 : decode cL_law 505 = .ok (.iaload, 1) := by decide +kernel
theorem dL_law_506 : decode cL_law 506 = .ok (.aload_n 0, 1) := by decide +kernel
theorem dL_law_507 : decode cL_law 507 = .ok (.iload_n 3, 1) := by decide +kernel
theorem dL_law_508 : decode cL_law 508 = .ok (.iconst 2, 1) := by decide +kernel
theorem dL_law_509 : decode cL_law 509 = .ok (.iadd, 1) := by decide +kernel
theorem dL_law_510 : decode cL_law 510 = .ok (.iaload, 1) := by decide +kernel
theorem dL_law_511 : decode cL_law 511 = .ok (.invokevirtual 70, 3) := by decide +kernel
theorem dL_law_514 : decode cL_law 514 = .ok (.if_icmp .eq 184, 3) := by decide +kernel
theorem dL_law_517 : decode cL_law 517 = .ok (.iconst 0, 1) := by decide +kernel
theorem dL_law_518 : decode cL_law 518 = .ok (.ireturn, 1) := by decide +kernel
theorem dL_law_519 : decode cL_law 519 = .ok (.aload_n 1, 1) := by decide +kernel
theorem dL_law_520 : decode cL_law 520 = .ok (.invokevirtual 71, 3) := by decide +kernel
theorem dL_law_523 : decode cL_law 523 = .ok (.aload_n 2, 1) := by decide +kernel
theorem dL_law_524 : decode cL_law 524 = .ok (.invokevirtual 74, 3) := by decide +kernel
theorem dL_law_527 : decode cL_law 527 = .ok (.if_icmp .eq 171, 3) := by decide +kernel
theorem dL_law_530 : decode cL_law 530 = .ok (.iconst 0, 1) := by decide +kernel
theorem dL_law_531 : decode cL_law 531 = .ok (.ireturn, 1) := by decide +kernel
theorem dL_law_532 : decode cL_law 532 = .ok (.aload_n 1, 1) := by decide +kernel
theorem dL_law_533 : decode cL_law 533 = .ok (.aload_n 0, 1) := by decide +kernel
theorem dL_law_534 : decode cL_law 534 = .ok (.iload_n 3, 1) := by decide +kernel
theorem dL_law_535 : decode cL_law 535 = .ok (.iconst 1, 1) := by decide +kernel
theorem dL_law_536 : decode cL_law 536 = .ok (.iadd, 1) := by decide +kernel
theorem dL_law_537 : decode cL_law 537 = .ok (.iaload, 1) := by decide +kernel
theorem dL_law_538 : decode cL_law 538 = .ok (.aload_n 0, 1) := by decide +kernel
theorem dL_law_539 : decode cL_law 539 = .ok (.iload_n 3, 1) := by decide +kernel
theorem dL_law_540 : decode cL_law 540 = .ok (.iconst 2, 1) := by decide +kernel
theorem dL_law_541 : decode cL_law 541 = .ok (.iadd, 1) := by decide +kernel
theorem dL_law_542 : decode cL_law 542 = .ok (.iaload, 1) := by decide +kernel
theorem dL_law_543 : decode cL_law 543 = .ok (.invokevirtual 75, 3) := by decide +kernel
theorem dL_law_546 : decode cL_law 546 = .ok (.aload_n 2, 1) := by decide +kernel
theorem dL_law_547 : decode cL_law 547 = .ok (.aload_n 0, 1) := by decide +kernel
theorem dL_law_548 : decode cL_law 548 = .ok (.iload_n 3, 1) := by decide +kernel
theorem dL_law_549 : decode cL_law 549 = .ok (.iconst 1, 1) := by decide +kernel
theorem dL_law_550 : decode cL_law 550 = .ok (.iadd, 1) := by decide +kernel
theorem dL_law_551 : decode cL_law 551 = .ok (.iaload, 1) := by decide +kernel
theorem dL_law_552 : decode cL_law 552 = .ok (.aload_n 0, 1) := by decide +kernel
theorem dL_law_553 : decode cL_law 553 = .ok (.iload_n 3, 1) := by decide +kernel
theorem dL_law_554 : decode cL_law 554 = .ok (.iconst 2, 1) := by decide +kernel
theorem dL_law_555 : decode cL_law 555 = .ok (.iadd, 1) := by decide +kernel
theorem dL_law_556 : decode cL_law 556 = .ok (.iaload, 1) := by decide +kernel
theorem dL_law_557 : decode cL_law 557 = .ok (.invokevirtual 78, 3) := by decide +kernel
theorem dL_law_560 : decode cL_law 560 = .ok (.if_icmp .eq 138, 3) := by decide +kernel
theorem dL_law_563 : decode cL_law 563 = .ok (.iconst 0, 1) := by decide +kernel
theorem dL_law_564 : decode cL_law 564 = .ok (.ireturn, 1) := by decide +kernel
theorem dL_law_565 : decode cL_law 565 = .ok (.aload_n 1, 1) := by decide +kernel
theorem dL_law_566 : decode cL_law 566 = .ok (.aload_n 0, 1) := by decide +kernel
theorem dL_law_567 : decode cL_law 567 = .ok (.iload_n 3, 1) := by decide +kernel
theorem dL_law_568 : decode cL_law 568 = .ok (.iconst 1, 1) := by decide +kernel
theorem dL_law_569 : decode cL_law 569 = .ok (.iadd, 1) := by decide +kernel
theorem dL_law_570 : decode cL_law 570 = .ok (.iaload, 1) := by decide +kernel
theorem dL_law_571 : decode cL_law 571 = .ok (.aload_n 0, 1) := by decide +kernel
theorem dL_law_572 : decode cL_law 572 = .ok (.iload_n 3, 1) := by decide +kernel
theorem dL_law_573 : decode cL_law 573 = .ok (.iconst 2, 1) := by decide +kernel
theorem dL_law_574 : decode cL_law 574 = .ok (.iadd, 1) := by decide +kernel
theorem dL_law_575 : decode cL_law 575 = .ok (.iaload, 1) := by decide +kernel
theorem dL_law_576 : decode cL_law 576 = .ok (.aload_n 0, 1) := by decide +kernel
theorem dL_law_577 : decode cL_law 577 = .ok (.iload_n 3, 1) := by decide +kernel
theorem dL_law_578 : decode cL_law 578 = .ok (.iconst 3, 1) := by decide +kernel
theorem dL_law_579 : decode cL_law 579 = .ok (.iadd, 1) := by decide +kernel
theorem dL_law_580 : decode cL_law 580 = .ok (.iaload, 1) := by decide +kernel
theorem dL_law_581 : decode cL_law 581 = .ok (.invokevirtual 79, 3) := by decide +kernel
theorem dL_law_584 : decode cL_law 584 = .ok (.aload_n 2, 1) := by decide +kernel
theorem dL_law_585 : decode cL_law 585 = .ok (.aload_n 0, 1) := by decide +kernel
theorem dL_law_586 : decode cL_law 586 = .ok (.iload_n 3, 1) := by decide +kernel
theorem dL_law_587 : decode cL_law 587 = .ok (.iconst 1, 1) := by decide +kernel
theorem dL_law_588 : decode cL_law 588 = .ok (.iadd, 1) := by decide +kernel
theorem dL_law_589 : decode cL_law 589 = .ok (.iaload, 1) := by decide +kernel
theorem dL_law_590 : decode cL_law 590 = .ok (.aload_n 0, 1) := by decide +kernel
theorem dL_law_591 : decode cL_law 591 = .ok (.iload_n 3, 1) := by decide +kernel
theorem dL_law_592 : decode cL_law 592 = .ok (.iconst 2, 1) := by decide +kernel
theorem dL_law_593 : decode cL_law 593 = .ok (.iadd, 1) := by decide +kernel
theorem dL_law_594 : decode cL_law 594 = .ok (.iaload, 1) := by decide +kernel
theorem dL_law_595 : decode cL_law 595 = .ok (.aload_n 0, 1) := by decide +kernel
theorem dL_law_596 : decode cL_law 596 = .ok (.iload_n 3, 1) := by decide +kernel
theorem dL_law_597 : decode cL_law 597 = .ok (.iconst 3, 1) := by decide +kernel
theorem dL_law_598 : decode cL_law 598 = .ok (.iadd, 1) := by decide +kernel
theorem dL_law_599 : decode cL_law 599 = .ok (.iaload, 1) := by decide +kernel
theorem dL_law_600 : decode cL_law 600 = .ok (.invokevirtual 82, 3) := by decide +kernel
theorem dL_law_603 : decode cL_law 603 = .ok (.if_icmp .eq 95, 3) := by decide +kernel
theorem dL_law_606 : decode cL_law 606 = .ok (.iconst 0, 1) := by decide +kernel
theorem dL_law_607 : decode cL_law 607 = .ok (.ireturn, 1) := by decide +kernel
theorem dL_law_608 : decode cL_law 608 = .ok (.aload_n 1, 1) := by decide +kernel
theorem dL_law_609 : decode cL_law 609 = .ok (.aload_n 0, 1) := by decide +kernel
theorem dL_law_610 : decode cL_law 610 = .ok (.iload_n 3, 1) := by decide +kernel
theorem dL_law_611 : decode cL_law 611 = .ok (.iconst 1, 1) := by decide +kernel
theorem dL_law_612 : decode cL_law 612 = .ok (.iadd, 1) := by decide +kernel
theorem dL_law_613 : decode cL_law 613 = .ok (.iaload, 1) := by decide +kernel
theorem dL_law_614 : decode cL_law 614 = .ok (.invokevirtual 83, 3) := by decide +kernel
theorem dL_law_617 : decode cL_law 617 = .ok (.aload_n 2, 1) := by decide +kernel
theorem dL_law_618 : decode cL_law 618 = .ok (.aload_n 0, 1) := by decide +kernel
theorem dL_law_619 : decode cL_law 619 = .ok (.iload_n 3, 1) := by decide +kernel
theorem dL_law_620 : decode cL_law 620 = .ok (.iconst 1, 1) := by decide +kernel
theorem dL_law_621 : decode cL_law 621 = .ok (.iadd, 1) := by decide +kernel
theorem dL_law_622 : decode cL_law 622 = .ok (.iaload, 1) := by decide +kernel
theorem dL_law_623 : decode cL_law 623 = .ok (.invokevirtual 86, 3) := by decide +kernel
theorem dL_law_626 : decode cL_law 626 = .ok (.if_icmp .eq 72, 3) := by decide +kernel
theorem dL_law_629 : decode cL_law 629 = .ok (.iconst 0, 1) := by decide +kernel
theorem dL_law_630 : decode cL_law 630 = .ok (.ireturn, 1) := by decide +kernel
theorem dL_law_631 : decode cL_law 631 = .ok (.aload_n 1, 1) := by decide +kernel
theorem dL_law_632 : decode cL_law 632 = .ok (.aload_n 0, 1) := by decide +kernel
theorem dL_law_633 : decode cL_law 633 = .ok (.iload_n 3, 1) := by decide +kernel
theorem dL_law_634 : decode cL_law 634 = .ok (.iconst 1, 1) := by decide +kernel
theorem dL_law_635 : decode cL_law 635 = .ok (.iadd, 1) := by decide +kernel
theorem dL_law_636 : decode cL_law 636 = .ok (.iaload, 1) := by decide +kernel
theorem dL_law_637 : decode cL_law 637 = .ok (.aload_n 0, 1) := by decide +kernel
theorem dL_law_638 : decode cL_law 638 = .ok (.iload_n 3, 1) := by decide +kernel
theorem dL_law_639 : decode cL_law 639 = .ok (.iconst 2, 1) := by decide +kernel
theorem dL_law_640 : decode cL_law 640 = .ok (.iadd, 1) := by decide +kernel
theorem dL_law_641 : decode cL_law 641 = .ok (.iaload, 1) := by decide +kernel
theorem dL_law_642 : decode cL_law 642 = .ok (.invokevirtual 87, 3) := by decide +kernel
theorem dL_law_645 : decode cL_law 645 = .ok (.aload_n 2, 1) := by decide +kernel
theorem dL_law_646 : decode cL_law 646 = .ok (.aload_n 0, 1) := by decide +kernel
theorem dL_law_647 : decode cL_law 647 = .ok (.iload_n 3, 1) := by decide +kernel
theorem dL_law_648 : decode cL_law 648 = .ok (.iconst 1, 1) := by decide +kernel
theorem dL_law_649 : decode cL_law 649 = .ok (.iadd, 1) := by decide +kernel
theorem dL_law_650 : decode cL_law 650 = .ok (.iaload, 1) := by decide +kernel
theorem dL_law_651 : decode cL_law 651 = .ok (.aload_n 0, 1) := by decide +kernel
theorem dL_law_652 : decode cL_law 652 = .ok (.iload_n 3, 1) := by decide +kernel
theorem dL_law_653 : decode cL_law 653 = .ok (.iconst 2, 1) := by decide +kernel
theorem dL_law_654 : decode cL_law 654 = .ok (.iadd, 1) := by decide +kernel
theorem dL_law_655 : decode cL_law 655 = .ok (.iaload, 1) := by decide +kernel
theorem dL_law_656 : decode cL_law 656 = .ok (.invokevirtual 91, 3) := by decide +kernel
theorem dL_law_659 : decode cL_law 659 = .ok (.lcmp, 1) := by decide +kernel
theorem dL_law_660 : decode cL_law 660 = .ok (.ifCond .eq 38, 3) := by decide +kernel
theorem dL_law_663 : decode cL_law 663 = .ok (.iconst 0, 1) := by decide +kernel
theorem dL_law_664 : decode cL_law 664 = .ok (.ireturn, 1) := by decide +kernel
theorem dL_law_665 : decode cL_law 665 = .ok (.aload_n 1, 1) := by decide +kernel
theorem dL_law_666 : decode cL_law 666 = .ok (.aload_n 0, 1) := by decide +kernel
theorem dL_law_667 : decode cL_law 667 = .ok (.iload_n 3, 1) := by decide +kernel
theorem dL_law_668 : decode cL_law 668 = .ok (.iconst 1, 1) := by decide +kernel
theorem dL_law_669 : decode cL_law 669 = .ok (.iadd, 1) := by decide +kernel
theorem dL_law_670 : decode cL_law 670 = .ok (.iaload, 1) := by decide +kernel
theorem dL_law_671 : decode cL_law 671 = .ok (.aload_n 0, 1) := by decide +kernel
theorem dL_law_672 : decode cL_law 672 = .ok (.iload_n 3, 1) := by decide +kernel
theorem dL_law_673 : decode cL_law 673 = .ok (.iconst 2, 1) := by decide +kernel
theorem dL_law_674 : decode cL_law 674 = .ok (.iadd, 1) := by decide +kernel
theorem dL_law_675 : decode cL_law 675 = .ok (.iaload, 1) := by decide +kernel
theorem dL_law_676 : decode cL_law 676 = .ok (.invokevirtual 92, 3) := by decide +kernel
theorem dL_law_679 : decode cL_law 679 = .ok (.aload_n 2, 1) := by decide +kernel
theorem dL_law_680 : decode cL_law 680 = .ok (.aload_n 0, 1) := by decide +kernel
theorem dL_law_681 : decode cL_law 681 = .ok (.iload_n 3, 1) := by decide +kernel
theorem dL_law_682 : decode cL_law 682 = .ok (.iconst 1, 1) := by decide +kernel
theorem dL_law_683 : decode cL_law 683 = .ok (.iadd, 1) := by decide +kernel
theorem dL_law_684 : decode cL_law 684 = .ok (.iaload, 1) := by decide +kernel
theorem dL_law_685 : decode cL_law 685 = .ok (.aload_n 0, 1) := by decide +kernel
theorem dL_law_686 : decode cL_law 686 = .ok (.iload_n 3, 1) := by decide +kernel
theorem dL_law_687 : decode cL_law 687 = .ok (.iconst 2, 1) := by decide +kernel
theorem dL_law_688 : decode cL_law 688 = .ok (.iadd, 1) := by decide +kernel
theorem dL_law_689 : decode cL_law 689 = .ok (.iaload, 1) := by decide +kernel
theorem dL_law_690 : decode cL_law 690 = .ok (.invokevirtual 95, 3) := by decide +kernel
theorem dL_law_693 : decode cL_law 693 = .ok (.if_icmp .eq 5, 3) := by decide +kernel
theorem dL_law_696 : decode cL_law 696 = .ok (.iconst 0, 1) := by decide +kernel
theorem dL_law_697 : decode cL_law 697 = .ok (.ireturn, 1) := by decide +kernel
theorem dL_law_698 : decode cL_law 698 = .ok (.iinc 3 5, 3) := by decide +kernel
theorem dL_law_701 : decode cL_law 701 = .ok (.goto (-683), 3) := by decide +kernel
theorem dL_law_704 : decode cL_law 704 = .ok (.iconst 1, 1) := by decide +kernel
theorem dL_law_705 : decode cL_law 705 = .ok (.ireturn, 1) := by decide +kernel
