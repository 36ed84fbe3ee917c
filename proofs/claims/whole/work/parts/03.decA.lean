theorem dX0_init_0 : decode cX0_init 0 = .ok (.aload_n 0, 1) := by decide +kernel
theorem dX0_init_1 : decode cX0_init 1 = .ok (.invokespecial 3, 3) := by decide +kernel
theorem dX0_init_4 : decode cX0_init 4 = .ok (.aload_n 0, 1) := by decide +kernel
theorem dX0_init_5 : decode cX0_init 5 = .ok (.new 9, 3) := by decide +kernel
theorem dX0_init_8 : decode cX0_init 8 = .ok (.dup, 1) := by decide +kernel
theorem dX0_init_9 : decode cX0_init 9 = .ok (.sipush 640, 3) := by decide +kernel
theorem dX0_init_12 : decode cX0_init 12 = .ok (.invokespecial 11, 3) := by decide +kernel
theorem dX0_init_15 : decode cX0_init 15 = .ok (.putfield 14, 3) := by decide +kernel
theorem dX0_init_18 : decode cX0_init 18 = .ok (.aload_n 0, 1) := by decide +kernel
theorem dX0_init_19 : decode cX0_init 19 = .ok (.new 9, 3) := by decide +kernel
theorem dX0_init_22 : decode cX0_init 22 = .ok (.dup, 1) := by decide +kernel
theorem dX0_init_23 : decode cX0_init 23 = .ok (.sipush 640, 3) := by decide +kernel
theorem dX0_init_26 : decode cX0_init 26 = .ok (.invokespecial 11, 3) := by decide +kernel
theorem dX0_init_29 : decode cX0_init 29 = .ok (.putfield 20, 3) := by decide +kernel
theorem dX0_init_32 : decode cX0_init 32 = .ok (.aload_n 0, 1) := by decide +kernel
theorem dX0_init_33 : decode cX0_init 33 = .ok (.new 9, 3) := by decide +kernel
theorem dX0_init_36 : decode cX0_init 36 = .ok (.dup, 1) := by decide +kernel
theorem dX0_init_37 : decode cX0_init 37 = .ok (.sipush 640, 3) := by decide +kernel
theorem dX0_init_40 : decode cX0_init 40 = .ok (.invokespecial 11, 3) := by decide +kernel
theorem dX0_init_43 : decode cX0_init 43 = .ok (.putfield 23, 3) := by decide +kernel
theorem dX0_init_46 : decode cX0_init 46 = .ok (.aload_n 0, 1) := by decide +kernel
theorem dX0_init_47 : decode cX0_init 47 = .ok (.new 9, 3) := by decide +kernel
theorem dX0_init_50 : decode cX0_init 50 = .ok (.dup, 1) := by decide +kernel
theorem dX0_init_51 : decode cX0_init 51 = .ok (.sipush 640, 3) := by decide +kernel
theorem dX0_init_54 : decode cX0_init 54 = .ok (.invokespecial 11, 3) := by decide +kernel
theorem dX0_init_57 : decode cX0_init 57 = .ok (.putfield 26, 3) := by decide +kernel
theorem dX0_init_60 : decode cX0_init 60 = .ok (.aload_n 0, 1) := by decide +kernel
theorem dX0_init_61 : decode cX0_init 61 = .ok (.new 9, 3) := by decide +kernel
theorem dX0_init_64 : decode cX0_init 64 = .ok (.dup, 1) := by decide +kernel
theorem dX0_init_65 : decode cX0_init 65 = .ok (.sipush 640, 3) := by decide +kernel
theorem dX0_init_68 : decode cX0_init 68 = .ok (.invokespecial 11, 3) := by decide +kernel
theorem dX0_init_71 : decode cX0_init 71 = .ok (.putfield 29, 3) := by decide +kernel
theorem dX0_init_74 : decode cX0_init 74 = .ok (.aload_n 0, 1) := by decide +kernel
theorem dX0_init_75 : decode cX0_init 75 = .ok (.new 9, 3) := by decide +kernel
theorem dX0_init_78 : decode cX0_init 78 = .ok (.dup, 1) := by decide +kernel
theorem dX0_init_79 : decode cX0_init 79 = .ok (.sipush 640, 3) := by decide +kernel
theorem dX0_init_82 : decode cX0_init 82 = .ok (.invokespecial 11, 3) := by decide +kernel
theorem dX0_init_85 : decode cX0_init 85 = .ok (.putfield 32, 3) := by decide +kernel
theorem dX0_init_88 : decode cX0_init 88 = .ok (.aload_n 0, 1) := by decide +kernel
theorem dX0_init_89 : decode cX0_init 89 = .ok (.new 9, 3) := by decide +kernel
theorem dX0_init_92 : decode cX0_init 92 = .ok (.dup, 1) := by decide +kernel
theorem dX0_init_93 : decode cX0_init 93 = .ok (.sipush 640, 3) := by decide +kernel
theorem dX0_init_96 : decode cX0_init 96 = .ok (.invokespecial 11, 3) := by decide +kernel
theorem dX0_init_99 : decode cX0_init 99 = .ok (.putfield 35, 3) := by decide +kernel
theorem dX0_init_102 : decode cX0_init 102 = .ok (.aload_n 0, 1) := by decide +kernel
theorem dX0_init_103 : decode cX0_init 103 = .ok (.new 9, 3) := by decide +kernel
theorem dX0_init_106 : decode cX0_init 106 = .ok (.dup, 1) := by decide +kernel
theorem dX0_init_107 : decode cX0_init 107 = .ok (.sipush 640, 3) := by decide +kernel
theorem dX0_init_110 : decode cX0_init 110 = .ok (.invokespecial 11, 3) := by decide +kernel
theorem dX0_init_113 : decode cX0_init 113 = .ok (.putfield 38, 3) := by decide +kernel
theorem dX0_init_116 : decode cX0_init 116 = .ok (.aload_n 0, 1) := by decide +kernel
theorem dX0_init_117 : decode cX0_init 117 = .ok (.new 9, 3) := by decide +kernel
theorem dX0_init_120 : decode cX0_init 120 = .ok (.dup, 1) := by decide +kernel
theorem dX0_init_121 : decode cX0_init 121 = .ok (.bipush 21, 2) := by decide +kernel
theorem dX0_init_123 : decode cX0_init 123 = .ok (.invokespecial 11, 3) := by decide +kernel
theorem dX0_init_126 : decode cX0_init 126 = .ok (.putfield 41, 3) := by decide +kernel
theorem dX0_init_129 : decode cX0_init 129 = .ok (.aload_n 0, 1) := by decide +kernel
theorem dX0_init_130 : decode cX0_init 130 = .ok (.new 9, 3) := by decide +kernel
theorem dX0_init_133 : decode cX0_init 133 = .ok (.dup, 1) := by decide +kernel
theorem dX0_init_134 : decode cX0_init 134 = .ok (.sipush 252, 3) := by decide +kernel
theorem dX0_init_137 : decode cX0_init 137 = .ok (.invokespecial 11, 3) := by decide +kernel
theorem dX0_init_140 : decode cX0_init 140 = .ok (.putfield 44, 3) := by decide +kernel
theorem dX0_init_143 : decode cX0_init 143 = .ok (.aload_n 0, 1) := by decide +kernel
theorem dX0_init_144 : decode cX0_init 144 = .ok (.new 9, 3) := by decide +kernel
theorem dX0_init_147 : decode cX0_init 147 = .ok (.dup, 1) := by decide +kernel
theorem dX0_init_148 : decode cX0_init 148 = .ok (.bipush 12, 2) := by decide +kernel
theorem dX0_init_150 : decode cX0_init 150 = .ok (.invokespecial 11, 3) := by decide +kernel
theorem dX0_init_153 : decode cX0_init 153 = .ok (.putfield 47, 3) := by decide +kernel
theorem dX0_init_156 : decode cX0_init 156 = .ok (.aload_n 0, 1) := by decide +kernel
theorem dX0_init_157 : decode cX0_init 157 = .ok (.iconst 0, 1) := by decide +kernel
theorem dX0_init_158 : decode cX0_init 158 = .ok (.putfield 50, 3) := by decide +kernel
theorem dX0_init_161 : decode cX0_init 161 = .ok (.aload_n 0, 1) := by decide +kernel
theorem dX0_init_162 : decode cX0_init 162 = .ok (.iconst 0, 1) := by decide +kernel
theorem dX0_init_163 : decode cX0_init 163 = .ok (.putfield 54, 3) := by decide +kernel
theorem dX0_init_166 : decode cX0_init 166 = .ok (.aload_n 0, 1) := by decide +kernel
theorem dX0_init_167 : decode cX0_init 167 = .ok (.iconst 0, 1) := by decide +kernel
theorem dX0_init_168 : decode cX0_init 168 = .ok (.putfield 57, 3) := by decide +kernel
theorem dX0_init_171 : decode cX0_init 171 = .ok (.return_, 1) := by decide +kernel
theorem dX0_match_0 : decode cX0_match 0 = .ok (.aload_n 0, 1) := by decide +kernel
theorem dX0_match_1 : decode cX0_match 1 = .ok (.iconst 0, 1) := by decide +kernel
theorem dX0_match_2 : decode cX0_match 2 = .ok (.putfield 50, 3) := by decide +kernel
theorem dX0_match_5 : decode cX0_match 5 = .ok (.aload_n 0, 1) := by decide +kernel
theorem dX0_match_6 : decode cX0_match 6 = .ok (.iconst 0, 1) := by decide +kernel
theorem dX0_match_7 : decode cX0_match 7 = .ok (.putfield 54, 3) := by decide +kernel
theorem dX0_match_10 : decode cX0_match 10 = .ok (.aload_n 0, 1) := by decide +kernel
theorem dX0_match_11 : decode cX0_match 11 = .ok (.iconst 0, 1) := by decide +kernel
theorem dX0_match_12 : decode cX0_match 12 = .ok (.putfield 57, 3) := by decide +kernel
theorem dX0_match_15 : decode cX0_match 15 = .ok (.iconst 0, 1) := by decide +kernel
theorem dX0_match_16 : decode cX0_match 16 = .ok (.istore_n 3, 1) := by decide +kernel
theorem dX0_match_17 : decode cX0_match 17 = .ok (.iload_n 3, 1) := by decide +kernel
theorem dX0_match_18 : decode cX0_match 18 = .ok (.aload_n 1, 1) := by decide +kernel
theorem dX0_match_19 : decode cX0_match 19 = .ok (.getfield 60, 3) := by decide +kernel
theorem dX0_match_22 : decode cX0_match 22 = .ok (.getfield 66, 3) := by decide +kernel
theorem dX0_match_25 : decode cX0_match 25 = .ok (.if_icmp .ge 74, 3) := by decide +kernel
theorem dX0_match_28 : decode cX0_match 28 = .ok (.aload_n 0, 1) := by decide +kernel
theorem dX0_match_29 : decode cX0_match 29 = .ok (.iload_n 3, 1) := by decide +kernel
theorem dX0_match_30 : decode cX0_match 30 = .ok (.invokevirtual 71, 3) := by decide +kernel
theorem dX0_match_33 : decode cX0_match 33 = .ok (.aload_n 2, 1) := by decide +kernel
theorem dX0_match_34 : decode cX0_match 34 = .ok (.getfield 74, 3) := by decide +kernel
theorem dX0_match_37 : decode cX0_match 37 = .ok (.iload_n 3, 1) := by decide +kernel
theorem dX0_match_38 : decode cX0_match 38 = .ok (.invokevirtual 79, 3) := by decide +kernel
theorem dX0_match_41 : decode cX0_match 41 = .ok (.istore 4, 2) := by decide +kernel
theorem dX0_match_43 : decode cX0_match 43 = .ok (.iload 4, 2) := by decide +kernel
theorem dX0_match_45 : decode cX0_match 45 = .ok (.aload_n 2, 1) := by decide +kernel
theorem dX0_match_46 : decode cX0_match 46 = .ok (.getfield 74, 3) := by decide +kernel
theorem dX0_match_49 : decode cX0_match 49 = .ok (.iload_n 3, 1) := by decide +kernel
theorem dX0_match_50 : decode cX0_match 50 = .ok (.iconst 1, 1) := by decide +kernel
theorem dX0_match_51 : decode cX0_match 51 = .ok (.iadd, 1) := by decide +kernel
theorem dX0_match_52 : decode cX0_match 52 = .ok (.invokevirtual 79, 3) := by decide +kernel
theorem dX0_match_55 : decode cX0_match 55 = .ok (.if_icmp .ge 38, 3) := by decide +kernel
theorem dX0_match_58 : decode cX0_match 58 = .ok (.aload_n 0, 1) := by decide +kernel
theorem dX0_match_59 : decode cX0_match 59 = .ok (.iload 4, 2) := by decide +kernel
theorem dX0_match_61 : decode cX0_match 61 = .ok (.aload_n 1, 1) := by decide +kernel
theorem dX0_match_62 : decode cX0_match 62 = .ok (.aload_n 2, 1) := by decide +kernel
theorem dX0_match_63 : decode cX0_match 63 = .ok (.invokevirtual 83, 3) := by decide +kernel
theorem dX0_match_66 : decode cX0_match 66 = .ok (.aload_n 0, 1) := by decide +kernel
theorem dX0_match_67 : decode cX0_match 67 = .ok (.iload 4, 2) := by decide +kernel
theorem dX0_match_69 : decode cX0_match 69 = .ok (.aload_n 1, 1) := by decide +kernel
theorem dX0_match_70 : decode cX0_match 70 = .ok (.getfield 87, 3) := by decide +kernel
theorem dX0_match_73 : decode cX0_match 73 = .ok (.invokevirtual 91, 3) := by decide +kernel
theorem dX0_match_76 : decode cX0_match 76 = .ok (.aload_n 0, 1) := by decide +kernel
theorem dX0_match_77 : decode cX0_match 77 = .ok (.iload 4, 2) := by decide +kernel
theorem dX0_match_79 : decode cX0_match 79 = .ok (.aload_n 1, 1) := by decide +kernel
theorem dX0_match_80 : decode cX0_match 80 = .ok (.getfield 87, 3) := by decide +kernel
theorem dX0_match_83 : decode cX0_match 83 = .ok (.aload_n 2, 1) := by decide +kernel
theorem dX0_match_84 : decode cX0_match 84 = .ok (.invokevirtual 95, 3) := by decide +kernel
theorem dX0_match_87 : decode cX0_match 87 = .ok (.iinc 4 1, 3) := by decide +kernel
theorem dX0_match_90 : decode cX0_match 90 = .ok (.goto (-47), 3) := by decide +kernel
theorem dX0_match_93 : decode cX0_match 93 = .ok (.iinc 3 1, 3) := by decide +kernel
theorem dX0_match_96 : decode cX0_match 96 = .ok (.goto (-79), 3) := by decide +kernel
theorem dX0_match_99 : decode cX0_match 99 = .ok (.aload_n 0, 1) := by decide +kernel
theorem dX0_match_100 : decode cX0_match 100 = .ok (.aload_n 1, 1) := by decide +kernel
theorem dX0_match_101 : decode cX0_match 101 = .ok (.getfield 60, 3) := by decide +kernel
theorem dX0_match_104 : decode cX0_match 104 = .ok (.getfield 66, 3) := by decide +kernel
theorem dX0_match_107 : decode cX0_match 107 = .ok (.invokevirtual 71, 3) := by decide +kernel
theorem dX0_match_110 : decode cX0_match 110 = .ok (.return_, 1) := by decide +kernel
theorem dX0_openBefore_0 : decode cX0_openBefore 0 = .ok (.iload_n 2, 1) := by decide +kernel
theorem dX0_openBefore_1 : decode cX0_openBefore 1 = .ok (.ifCond .lt 31, 3) := by decide +kernel
theorem dX0_openBefore_4 : decode cX0_openBefore 4 = .ok (.iload_n 2, 1) := by decide +kernel
theorem dX0_openBefore_5 : decode cX0_openBefore 5 = .ok (.aload_n 0, 1) := by decide +kernel
theorem dX0_openBefore_6 : decode cX0_openBefore 6 = .ok (.getfield 41, 3) := by decide +kernel
theorem dX0_openBefore_9 : decode cX0_openBefore 9 = .ok (.iload_n 1, 1) := by decide +kernel
theorem dX0_openBefore_10 : decode cX0_openBefore 10 = .ok (.invokevirtual 79, 3) := by decide +kernel
theorem dX0_openBefore_13 : decode cX0_openBefore 13 = .ok (.if_icmp .ge 19, 3) := by decide +kernel
theorem dX0_openBefore_16 : decode cX0_openBefore 16 = .ok (.aload_n 0, 1) := by decide +kernel
theorem dX0_openBefore_17 : decode cX0_openBefore 17 = .ok (.getfield 44, 3) := by decide +kernel
theorem dX0_openBefore_20 : decode cX0_openBefore 20 = .ok (.iload_n 1, 1) := by decide +kernel
theorem dX0_openBefore_21 : decode cX0_openBefore 21 = .ok (.bipush 12, 2) := by decide +kernel
theorem dX0_openBefore_23 : decode cX0_openBefore 23 = .ok (.imul, 1) := by decide +kernel
theorem dX0_openBefore_24 : decode cX0_openBefore 24 = .ok (.iload_n 2, 1) := by decide +kernel
theorem dX0_openBefore_25 : decode cX0_openBefore 25 = .ok (.iadd, 1) := by decide +kernel
theorem dX0_openBefore_26 : decode cX0_openBefore 26 = .ok (.invokevirtual 79, 3) := by decide +kernel
theorem dX0_openBefore_29 : decode cX0_openBefore 29 = .ok (.goto 4, 3) := by decide +kernel
theorem dX0_openBefore_32 : decode cX0_openBefore 32 = .ok (.iconst (-1), 1) := by decide +kernel
theorem dX0_openBefore_33 : decode cX0_openBefore 33 = .ok (.ireturn, 1) := by decide +kernel
theorem dX0_saveStack_0 : decode cX0_saveStack 0 = .ok (.aload_n 0, 1) := by decide +kernel
theorem dX0_saveStack_1 : decode cX0_saveStack 1 = .ok (.getfield 41, 3) := by decide +kernel
theorem dX0_saveStack_4 : decode cX0_saveStack 4 = .ok (.iload_n 1, 1) := by decide +kernel
theorem dX0_saveStack_5 : decode cX0_saveStack 5 = .ok (.aload_n 0, 1) := by decide +kernel
theorem dX0_saveStack_6 : decode cX0_saveStack 6 = .ok (.getfield 50, 3) := by decide +kernel
theorem dX0_saveStack_9 : decode cX0_saveStack 9 = .ok (.invokevirtual 99, 3) := by decide +kernel
theorem dX0_saveStack_12 : decode cX0_saveStack 12 = .ok (.iconst 0, 1) := by decide +kernel
theorem dX0_saveStack_13 : decode cX0_saveStack 13 = .ok (.istore_n 2, 1) := by decide +kernel
theorem dX0_saveStack_14 : decode cX0_saveStack 14 = .ok (.iload_n 2, 1) := by decide +kernel
theorem dX0_saveStack_15 : decode cX0_saveStack 15 = .ok (.aload_n 0, 1) := by decide +kernel
theorem dX0_saveStack_16 : decode cX0_saveStack 16 = .ok (.getfield 50, 3) := by decide +kernel
theorem dX0_saveStack_19 : decode cX0_saveStack 19 = .ok (.if_icmp .ge 30, 3) := by decide +kernel
theorem dX0_saveStack_22 : decode cX0_saveStack 22 = .ok (.aload_n 0, 1) := by decide +kernel
theorem dX0_saveStack_23 : decode cX0_saveStack 23 = .ok (.getfield 44, 3) := by decide +kernel
theorem dX0_saveStack_26 : decode cX0_saveStack 26 = .ok (.iload_n 1, 1) := by decide +kernel
theorem dX0_saveStack_27 : decode cX0_saveStack 27 = .ok (.bipush 12, 2) := by decide +kernel
theorem dX0_saveStack_29 : decode cX0_saveStack 29 = .ok (.imul, 1) := by decide +kernel
theorem dX0_saveStack_30 : decode cX0_saveStack 30 = .ok (.iload_n 2, 1) := by decide +kernel
theorem dX0_saveStack_31 : decode cX0_saveStack 31 = .ok (.iadd, 1) := by decide +kernel
theorem dX0_saveStack_32 : decode cX0_saveStack 32 = .ok (.aload_n 0, 1) := by decide +kernel
theorem dX0_saveStack_33 : decode cX0_saveStack 33 = .ok (.getfield 47, 3) := by decide +kernel
theorem dX0_saveStack_36 : decode cX0_saveStack 36 = .ok (.iload_n 2, 1) := by decide +kernel
theorem dX0_saveStack_37 : decode cX0_saveStack 37 = .ok (.invokevirtual 79, 3) := by decide +kernel
theorem dX0_saveStack_40 : decode cX0_saveStack 40 = .ok (.invokevirtual 99, 3) := by decide +kernel
theorem dX0_saveStack_43 : decode cX0_saveStack 43 = .ok (.iinc 2 1, 3) := by decide +kernel
theorem dX0_saveStack_46 : decode cX0_saveStack 46 = .ok (.goto (-32), 3) := by decide +kernel
theorem dX0_saveStack_49 : decode cX0_saveStack 49 = .ok (.return_, 1) := by decide +kernel
theorem dX0_findRules_0 : decode cX0_findRules 0 = .ok (.aload_n 3, 1) := by decide +kernel
theorem dX0_findRules_1 : decode cX0_findRules 1 = .ok (.getfield 103, 3) := by decide +kernel
theorem dX0_findRules_4 : decode cX0_findRules 4 = .ok (.iload_n 1, 1) := by decide +kernel
theorem dX0_findRules_5 : decode cX0_findRules 5 = .ok (.invokevirtual 79, 3) := by decide +kernel
theorem dX0_findRules_8 : decode cX0_findRules 8 = .ok (.istore 4, 2) := by decide +kernel
theorem dX0_findRules_10 : decode cX0_findRules 10 = .ok (.aload_n 3, 1) := by decide +kernel
theorem dX0_findRules_11 : decode cX0_findRules 11 = .ok (.getfield 106, 3) := by decide +kernel
theorem dX0_findRules_14 : decode cX0_findRules 14 = .ok (.iload_n 1, 1) := by decide +kernel
theorem dX0_findRules_15 : decode cX0_findRules 15 = .ok (.invokevirtual 79, 3) := by decide +kernel
theorem dX0_findRules_18 : decode cX0_findRules 18 = .ok (.istore 5, 2) := by decide +kernel
theorem dX0_findRules_20 : decode cX0_findRules 20 = .ok (.aload_n 3, 1) := by decide +kernel
theorem dX0_findRules_21 : decode cX0_findRules 21 = .ok (.getfield 109, 3) := by decide +kernel
theorem dX0_findRules_24 : decode cX0_findRules 24 = .ok (.iload_n 1, 1) := by decide +kernel
theorem dX0_findRules_25 : decode cX0_findRules 25 = .ok (.invokevirtual 79, 3) := by decide +kernel
theorem dX0_findRules_28 : decode cX0_findRules 28 = .ok (.istore 6, 2) := by decide +kernel
theorem dX0_findRules_30 : decode cX0_findRules 30 = .ok (.aload_n 3, 1) := by decide +kernel
theorem dX0_findRules_31 : decode cX0_findRules 31 = .ok (.getfield 112, 3) := by decide +kernel
theorem dX0_findRules_34 : decode cX0_findRules 34 = .ok (.iload_n 1, 1) := by decide +kernel
theorem dX0_findRules_35 : decode cX0_findRules 35 = .ok (.invokevirtual 79, 3) := by decide +kernel
theorem dX0_findRules_38 : decode cX0_findRules 38 = .ok (.iconst 2, 1) := by decide +kernel
theorem dX0_findRules_39 : decode cX0_findRules 39 = .ok (.if_icmp .ne 7, 3) := by decide +kernel
theorem dX0_findRules_42 : decode cX0_findRules 42 = .ok (.iconst 1, 1) := by decide +kernel
theorem dX0_findRules_43 : decode cX0_findRules 43 = .ok (.goto 4, 3) := by decide +kernel
theorem dX0_findRules_46 : decode cX0_findRules 46 = .ok (.iconst 0, 1) := by decide +kernel
theorem dX0_findRules_47 : decode cX0_findRules 47 = .ok (.istore 7, 2) := by decide +kernel
theorem dX0_findRules_49 : decode cX0_findRules 49 = .ok (.iconst 0, 1) := by decide +kernel
theorem dX0_findRules_50 : decode cX0_findRules 50 = .ok (.istore 8, 2) := by decide +kernel
theorem dX0_findRules_52 : decode cX0_findRules 52 = .ok (.iconst 0, 1) := by decide +kernel
theorem dX0_findRules_53 : decode cX0_findRules 53 = .ok (.istore 9, 2) := by decide +kernel
theorem dX0_findRules_55 : decode cX0_findRules 55 = .ok (.iconst 0, 1) := by decide +kernel
theorem dX0_findRules_56 : decode cX0_findRules 56 = .ok (.istore 10, 2) := by decide +kernel
theorem dX0_findRules_58 : decode cX0_findRules 58 = .ok (.iload 10, 2) := by decide +kernel
theorem dX0_findRules_60 : decode cX0_findRules 60 = .ok (.bipush 12, 2) := by decide +kernel
theorem dX0_findRules_62 : decode cX0_findRules 62 = .ok (.if_icmp .ge 93, 3) := by decide +kernel
theorem dX0_findRules_65 : decode cX0_findRules 65 = .ok (.iload 7, 2) := by decide +kernel
theorem dX0_findRules_67 : decode cX0_findRules 67 = .ok (.ifCond .ne 82, 3) := by decide +kernel
theorem dX0_findRules_70 : decode cX0_findRules 70 = .ok (.aload_n 2, 1) := by decide +kernel
theorem dX0_findRules_71 : decode cX0_findRules 71 = .ok (.getfield 87, 3) := by decide +kernel
theorem dX0_findRules_74 : decode cX0_findRules 74 = .ok (.iload 10, 2) := by decide +kernel
theorem dX0_findRules_76 : decode cX0_findRules 76 = .ok (.invokevirtual 115, 3) := by decide +kernel
theorem dX0_findRules_79 : decode cX0_findRules 79 = .ok (.ifCond .ne 6, 3) := by decide +kernel
theorem dX0_findRules_82 : decode cX0_findRules 82 = .ok (.goto 67, 3) := by decide +kernel
theorem dX0_findRules_85 : decode cX0_findRules 85 = .ok (.aload_n 2, 1) := by decide +kernel
theorem dX0_findRules_86 : decode cX0_findRules 86 = .ok (.getfield 87, 3) := by decide +kernel
theorem dX0_findRules_89 : decode cX0_findRules 89 = .ok (.iload 10, 2) := by decide +kernel
theorem dX0_findRules_91 : decode cX0_findRules 91 = .ok (.iconst 0, 1) := by decide +kernel
theorem dX0_findRules_92 : decode cX0_findRules 92 = .ok (.aload_n 2, 1) := by decide +kernel
theorem dX0_findRules_93 : decode cX0_findRules 93 = .ok (.getfield 60, 3) := by decide +kernel
theorem dX0_findRules_96 : decode cX0_findRules 96 = .ok (.iload 4, 2) := by decide +kernel
theorem dX0_findRules_98 : decode cX0_findRules 98 = .ok (.iload 5, 2) := by decide +kernel
theorem dX0_findRules_100 : decode cX0_findRules 100 = .ok (.iload 6, 2) := by decide +kernel
theorem dX0_findRules_102 : decode cX0_findRules 102 = .ok (.invokevirtual 121, 3) := by decide +kernel
theorem dX0_findRules_105 : decode cX0_findRules 105 = .ok (.ifCond .eq 12, 3) := by decide +kernel
theorem dX0_findRules_108 : decode cX0_findRules 108 = .ok (.iload 8, 2) := by decide +kernel
theorem dX0_findRules_110 : decode cX0_findRules 110 = .ok (.iconst 1, 1) := by decide +kernel
theorem dX0_findRules_111 : decode cX0_findRules 111 = .ok (.iload 10, 2) := by decide +kernel
theorem dX0_findRules_113 : decode cX0_findRules 113 = .ok (.ishl, 1) := by decide +kernel
theorem dX0_findRules_114 : decode cX0_findRules 114 = .ok (.ior, 1) := by decide +kernel
theorem dX0_findRules_115 : decode cX0_findRules 115 = .ok (.istore 8, 2) := by decide +kernel
theorem dX0_findRules_117 : decode cX0_findRules 117 = .ok (.aload_n 2, 1) := by decide +kernel
theorem dX0_findRules_118 : decode cX0_findRules 118 = .ok (.getfield 87, 3) := by decide +kernel
theorem dX0_findRules_121 : decode cX0_findRules 121 = .ok (.iload 10, 2) := by decide +kernel
theorem dX0_findRules_123 : decode cX0_findRules 123 = .ok (.iconst 1, 1) := by decide +kernel
theorem dX0_findRules_124 : decode cX0_findRules 124 = .ok (.aload_n 2, 1) := by decide +kernel
theorem dX0_findRules_125 : decode cX0_findRules 125 = .ok (.getfield 60, 3) := by decide +kernel
theorem dX0_findRules_128 : decode cX0_findRules 128 = .ok (.iload 4, 2) := by decide +kernel
theorem dX0_findRules_130 : decode cX0_findRules 130 = .ok (.iload 5, 2) := by decide +kernel
theorem dX0_findRules_132 : decode cX0_findRules 132 = .ok (.iload 6, 2) := by decide +kernel
theorem dX0_findRules_134 : decode cX0_findRules 134 = .ok (.invokevirtual 121, 3) := by decide +kernel
theorem dX0_findRules_137 : decode cX0_findRules 137 = .ok (.ifCond .eq 12, 3) := by decide +kernel
theorem dX0_findRules_140 : decode cX0_findRules 140 = .ok (.iload 9, 2) := by decide +kernel
theorem dX0_findRules_142 : decode cX0_findRules 142 = .ok (.iconst 1, 1) := by decide +kernel
theorem dX0_findRules_143 : decode cX0_findRules 143 = .ok (.iload 10, 2) := by decide +kernel
theorem dX0_findRules_145 : decode cX0_findRules 145 = .ok (.ishl, 1) := by decide +kernel
theorem dX0_findRules_146 : decode cX0_findRules 146 = .ok (.ior, 1) := by decide +kernel
theorem dX0_findRules_147 : decode cX0_findRules 147 = .ok (.istore 9, 2) := by decide +kernel
theorem dX0_findRules_149 : decode cX0_findRules 149 = .ok (.iinc 10 1, 3) := by decide +kernel
theorem dX0_findRules_152 : decode cX0_findRules 152 = .ok (.goto (-94), 3) := by decide +kernel
theorem dX0_findRules_155 : decode cX0_findRules 155 = .ok (.aload_n 0, 1) := by decide +kernel
theorem dX0_findRules_156 : decode cX0_findRules 156 = .ok (.getfield 14, 3) := by decide +kernel
theorem dX0_findRules_159 : decode cX0_findRules 159 = .ok (.iload_n 1, 1) := by decide +kernel
theorem dX0_findRules_160 : decode cX0_findRules 160 = .ok (.iload 8, 2) := by decide +kernel
theorem dX0_findRules_162 : decode cX0_findRules 162 = .ok (.invokevirtual 99, 3) := by decide +kernel
theorem dX0_findRules_165 : decode cX0_findRules 165 = .ok (.aload_n 0, 1) := by decide +kernel
theorem dX0_findRules_166 : decode cX0_findRules 166 = .ok (.getfield 20, 3) := by decide +kernel
theorem dX0_findRules_169 : decode cX0_findRules 169 = .ok (.iload_n 1, 1) := by decide +kernel
theorem dX0_findRules_170 : decode cX0_findRules 170 = .ok (.iload 9, 2) := by decide +kernel
theorem dX0_findRules_172 : decode cX0_findRules 172 = .ok (.invokevirtual 99, 3) := by decide +kernel
theorem dX0_findRules_175 : decode cX0_findRules 175 = .ok (.return_, 1) := by decide +kernel
theorem dX0_close_0 : decode cX0_close 0 = .ok (.aload_n 0, 1) := by decide +kernel
theorem dX0_close_1 : decode cX0_close 1 = .ok (.getfield 26, 3) := by decide +kernel
theorem dX0_close_4 : decode cX0_close 4 = .ok (.iload_n 1, 1) := by decide +kernel
theorem dX0_close_5 : decode cX0_close 5 = .ok (.iconst (-1), 1) := by decide +kernel
theorem dX0_close_6 : decode cX0_close 6 = .ok (.invokevirtual 99, 3) := by decide +kernel
theorem dX0_close_9 : decode cX0_close 9 = .ok (.aload_n 0, 1) := by decide +kernel
theorem dX0_close_10 : decode cX0_close 10 = .ok (.getfield 20, 3) := by decide +kernel
theorem dX0_close_13 : decode cX0_close 13 = .ok (.iload_n 1, 1) := by decide +kernel
theorem dX0_close_14 : decode cX0_close 14 = .ok (.invokevirtual 79, 3) := by decide +kernel
theorem dX0_close_17 : decode cX0_close 17 = .ok (.ifCond .ne 4, 3) := by decide +kernel
theorem dX0_close_20 : decode cX0_close 20 = .ok (.return_, 1) := by decide +kernel
theorem dX0_close_21 : decode cX0_close 21 = .ok (.aload_n 0, 1) := by decide +kernel
theorem dX0_close_22 : decode cX0_close 22 = .ok (.aload_n 0, 1) := by decide +kernel
theorem dX0_close_23 : decode cX0_close 23 = .ok (.getfield 20, 3) := by decide +kernel
theorem dX0_close_26 : decode cX0_close 26 = .ok (.iload_n 1, 1) := by decide +kernel
theorem dX0_close_27 : decode cX0_close 27 = .ok (.invokevirtual 79, 3) := by decide +kernel
theorem dX0_close_30 : decode cX0_close 30 = .ok (.aload_n 2, 1) := by decide +kernel
theorem dX0_close_31 : decode cX0_close 31 = .ok (.invokevirtual 125, 3) := by decide +kernel
theorem dX0_close_34 : decode cX0_close 34 = .ok (.istore_n 3, 1) := by decide +kernel
theorem dX0_close_35 : decode cX0_close 35 = .ok (.iload_n 3, 1) := by decide +kernel
theorem dX0_close_36 : decode cX0_close 36 = .ok (.iconst (-1), 1) := by decide +kernel
theorem dX0_close_37 : decode cX0_close 37 = .ok (.if_icmp .ne 14, 3) := by decide +kernel
theorem dX0_close_40 : decode cX0_close 40 = .ok (.aload_n 0, 1) := by decide +kernel
theorem dX0_close_41 : decode cX0_close 41 = .ok (.dup, 1) := by decide +kernel
theorem dX0_close_42 : decode cX0_close 42 = .ok (.getfield 54, 3) := by decide +kernel
theorem dX0_close_45 : decode cX0_close 45 = .ok (.iconst 1, 1) := by decide +kernel
theorem dX0_close_46 : decode cX0_close 46 = .ok (.iadd, 1) := by decide +kernel
theorem dX0_close_47 : decode cX0_close 47 = .ok (.putfield 54, 3) := by decide +kernel
theorem dX0_close_50 : decode cX0_close 50 = .ok (.return_, 1) := by decide +kernel
theorem dX0_close_51 : decode cX0_close 51 = .ok (.aload_n 0, 1) := by decide +kernel
theorem dX0_close_52 : decode cX0_close 52 = .ok (.getfield 26, 3) := by decide +kernel
theorem dX0_close_55 : decode cX0_close 55 = .ok (.iload_n 1, 1) := by decide +kernel
theorem dX0_close_56 : decode cX0_close 56 = .ok (.aload_n 0, 1) := by decide +kernel
theorem dX0_close_57 : decode cX0_close 57 = .ok (.getfield 47, 3) := by decide +kernel
theorem dX0_close_60 : decode cX0_close 60 = .ok (.iload_n 3, 1) := by decide +kernel
theorem dX0_close_61 : decode cX0_close 61 = .ok (.invokevirtual 79, 3) := by decide +kernel
theorem dX0_close_64 : decode cX0_close 64 = .ok (.invokevirtual 99, 3) := by decide +kernel
theorem dX0_close_67 : decode cX0_close 67 = .ok (.aload_n 0, 1) := by decide +kernel
theorem dX0_close_68 : decode cX0_close 68 = .ok (.getfield 29, 3) := by decide +kernel
theorem dX0_close_71 : decode cX0_close 71 = .ok (.aload_n 0, 1) := by decide +kernel
theorem dX0_close_72 : decode cX0_close 72 = .ok (.getfield 47, 3) := by decide +kernel
theorem dX0_close_75 : decode cX0_close 75 = .ok (.iload_n 3, 1) := by decide +kernel
theorem dX0_close_76 : decode cX0_close 76 = .ok (.invokevirtual 79, 3) := by decide +kernel
theorem dX0_close_79 : decode cX0_close 79 = .ok (.iload_n 1, 1) := by decide +kernel
theorem dX0_close_80 : decode cX0_close 80 = .ok (.invokevirtual 99, 3) := by decide +kernel
theorem dX0_close_83 : decode cX0_close 83 = .ok (.aload_n 0, 1) := by decide +kernel
theorem dX0_close_84 : decode cX0_close 84 = .ok (.dup, 1) := by decide +kernel
theorem dX0_close_85 : decode cX0_close 85 = .ok (.getfield 57, 3) := by decide +kernel
theorem dX0_close_88 : decode cX0_close 88 = .ok (.aload_n 0, 1) := by decide +kernel
theorem dX0_close_89 : decode cX0_close 89 = .ok (.getfield 50, 3) := by decide +kernel
theorem dX0_close_92 : decode cX0_close 92 = .ok (.iconst 1, 1) := by decide +kernel
theorem dX0_close_93 : decode cX0_close 93 = .ok (.isub, 1) := by decide +kernel
theorem dX0_close_94 : decode cX0_close 94 = .ok (.iload_n 3, 1) := by decide +kernel
theorem dX0_close_95 : decode cX0_close 95 = .ok (.isub, 1) := by decide +kernel
theorem dX0_close_96 : decode cX0_close 96 = .ok (.iadd, 1) := by decide +kernel
theorem dX0_close_97 : decode cX0_close 97 = .ok (.putfield 57, 3) := by decide +kernel
theorem dX0_close_100 : decode cX0_close 100 = .ok (.aload_n 0, 1) := by decide +kernel
theorem dX0_close_101 : decode cX0_close 101 = .ok (.iload_n 3, 1) := by decide +kernel
theorem dX0_close_102 : decode cX0_close 102 = .ok (.putfield 50, 3) := by decide +kernel
theorem dX0_close_105 : decode cX0_close 105 = .ok (.return_, 1) := by decide +kernel
theorem dX0_levelThatCloses_0 : decode cX0_levelThatCloses 0 = .ok (.iconst (-1), 1) := by decide +kernel
theorem dX0_levelThatCloses_1 : decode cX0_levelThatCloses 1 = .ok (.istore_n 3, 1) := by decide +kernel
theorem dX0_levelThatCloses_2 : decode cX0_levelThatCloses 2 = .ok (.aload_n 0, 1) := by decide +kernel
theorem dX0_levelThatCloses_3 : decode cX0_levelThatCloses 3 = .ok (.getfield 50, 3) := by decide +kernel
theorem dX0_levelThatCloses_6 : decode cX0_levelThatCloses 6 = .ok (.iconst 1, 1) := by decide +kernel
theorem dX0_levelThatCloses_7 : decode cX0_levelThatCloses 7 = .ok (.isub, 1) := by decide +kernel
theorem dX0_levelThatCloses_8 : decode cX0_levelThatCloses 8 = .ok (.istore 4, 2) := by decide +kernel
theorem dX0_levelThatCloses_10 : decode cX0_levelThatCloses 10 = .ok (.iload 4, 2) := by decide +kernel
theorem dX0_levelThatCloses_12 : decode cX0_levelThatCloses 12 = .ok (.ifCond .lt 70, 3) := by decide +kernel
theorem dX0_levelThatCloses_15 : decode cX0_levelThatCloses 15 = .ok (.aload_n 0, 1) := by decide +kernel
theorem dX0_levelThatCloses_16 : decode cX0_levelThatCloses 16 = .ok (.getfield 23, 3) := by decide +kernel
theorem dX0_levelThatCloses_19 : decode cX0_levelThatCloses 19 = .ok (.aload_n 0, 1) := by decide +kernel
theorem dX0_levelThatCloses_20 : decode cX0_levelThatCloses 20 = .ok (.getfield 47, 3) := by decide +kernel
theorem dX0_levelThatCloses_23 : decode cX0_levelThatCloses 23 = .ok (.iload 4, 2) := by decide +kernel
theorem dX0_levelThatCloses_25 : decode cX0_levelThatCloses 25 = .ok (.invokevirtual 79, 3) := by decide +kernel
theorem dX0_levelThatCloses_28 : decode cX0_levelThatCloses 28 = .ok (.invokevirtual 79, 3) := by decide +kernel
theorem dX0_levelThatCloses_31 : decode cX0_levelThatCloses 31 = .ok (.istore 5, 2) := by decide +kernel
theorem dX0_levelThatCloses_33 : decode cX0_levelThatCloses 33 = .ok (.iload_n 1, 1) := by decide +kernel
theorem dX0_levelThatCloses_34 : decode cX0_levelThatCloses 34 = .ok (.iload 5, 2) := by decide +kernel
theorem dX0_levelThatCloses_36 : decode cX0_levelThatCloses 36 = .ok (.ishr, 1) := by decide +kernel
theorem dX0_levelThatCloses_37 : decode cX0_levelThatCloses 37 = .ok (.iconst 1, 1) := by decide +kernel
theorem dX0_levelThatCloses_38 : decode cX0_levelThatCloses 38 = .ok (.iand, 1) := by decide +kernel
theorem dX0_levelThatCloses_39 : decode cX0_levelThatCloses 39 = .ok (.ifCond .eq 23, 3) := by decide +kernel
theorem dX0_levelThatCloses_42 : decode cX0_levelThatCloses 42 = .ok (.aload_n 2, 1) := by decide +kernel
theorem dX0_levelThatCloses_43 : decode cX0_levelThatCloses 43 = .ok (.getfield 129, 3) := by decide +kernel
theorem dX0_levelThatCloses_46 : decode cX0_levelThatCloses 46 = .ok (.iload 5, 2) := by decide +kernel
theorem dX0_levelThatCloses_48 : decode cX0_levelThatCloses 48 = .ok (.invokevirtual 79, 3) := by decide +kernel
theorem dX0_levelThatCloses_51 : decode cX0_levelThatCloses 51 = .ok (.iload_n 3, 1) := by decide +kernel
theorem dX0_levelThatCloses_52 : decode cX0_levelThatCloses 52 = .ok (.if_icmp .le 8, 3) := by decide +kernel
theorem dX0_levelThatCloses_55 : decode cX0_levelThatCloses 55 = .ok (.iload 4, 2) := by decide +kernel
theorem dX0_levelThatCloses_57 : decode cX0_levelThatCloses 57 = .ok (.goto 4, 3) := by decide +kernel
theorem dX0_levelThatCloses_60 : decode cX0_levelThatCloses 60 = .ok (.iconst (-1), 1) := by decide +kernel
theorem dX0_levelThatCloses_61 : decode cX0_levelThatCloses 61 = .ok (.ireturn, 1) := by decide +kernel
theorem dX0_levelThatCloses_62 : decode cX0_levelThatCloses 62 = .ok (.iload_n 3, 1) := by decide +kernel
theorem dX0_levelThatCloses_63 : decode cX0_levelThatCloses 63 = .ok (.aload_n 2, 1) := by decide +kernel
theorem dX0_levelThatCloses_64 : decode cX0_levelThatCloses 64 = .ok (.getfield 129, 3) := by decide +kernel
theorem dX0_levelThatCloses_67 : decode cX0_levelThatCloses 67 = .ok (.iload 5, 2) := by decide +kernel
theorem dX0_levelThatCloses_69 : decode cX0_levelThatCloses 69 = .ok (.invokevirtual 79, 3) := by decide +kernel
theorem dX0_levelThatCloses_72 : decode cX0_levelThatCloses 72 = .ok (.invokestatic 132, 3) := by decide +kernel
theorem dX0_levelThatCloses_75 : decode cX0_levelThatCloses 75 = .ok (.istore_n 3, 1) := by decide +kernel
theorem dX0_levelThatCloses_76 : decode cX0_levelThatCloses 76 = .ok (.iinc 4 (-1), 3) := by decide +kernel
theorem dX0_levelThatCloses_79 : decode cX0_levelThatCloses 79 = .ok (.goto (-69), 3) := by decide +kernel
theorem dX0_levelThatCloses_82 : decode cX0_levelThatCloses 82 = .ok (.iconst (-1), 1) := by decide +kernel
theorem dX0_levelThatCloses_83 : decode cX0_levelThatCloses 83 = .ok (.ireturn, 1) := by decide +kernel
theorem dX0_open_0 : decode cX0_open 0 = .ok (.aload_n 0, 1) := by decide +kernel
theorem dX0_open_1 : decode cX0_open 1 = .ok (.getfield 50, 3) := by decide +kernel
theorem dX0_open_4 : decode cX0_open 4 = .ok (.bipush 12, 2) := by decide +kernel
theorem dX0_open_6 : decode cX0_open 6 = .ok (.if_icmp .ge 19, 3) := by decide +kernel
theorem dX0_open_9 : decode cX0_open 9 = .ok (.aload_n 2, 1) := by decide +kernel
theorem dX0_open_10 : decode cX0_open 10 = .ok (.iconst 1, 1) := by decide +kernel
theorem dX0_open_11 : decode cX0_open 11 = .ok (.aload_n 0, 1) := by decide +kernel
theorem dX0_open_12 : decode cX0_open 12 = .ok (.getfield 14, 3) := by decide +kernel
theorem dX0_open_15 : decode cX0_open 15 = .ok (.iload_n 1, 1) := by decide +kernel
theorem dX0_open_16 : decode cX0_open 16 = .ok (.invokevirtual 79, 3) := by decide +kernel
theorem dX0_open_19 : decode cX0_open 19 = .ok (.invokevirtual 138, 3) := by decide +kernel
theorem dX0_open_22 : decode cX0_open 22 = .ok (.goto 4, 3) := by decide +kernel
theorem dX0_open_25 : decode cX0_open 25 = .ok (.iconst (-1), 1) := by decide +kernel
theorem dX0_open_26 : decode cX0_open 26 = .ok (.istore 4, 2) := by decide +kernel
theorem dX0_open_28 : decode cX0_open 28 = .ok (.aload_n 0, 1) := by decide +kernel
theorem dX0_open_29 : decode cX0_open 29 = .ok (.getfield 23, 3) := by decide +kernel
theorem dX0_open_32 : decode cX0_open 32 = .ok (.iload_n 1, 1) := by decide +kernel
theorem dX0_open_33 : decode cX0_open 33 = .ok (.iload 4, 2) := by decide +kernel
theorem dX0_open_35 : decode cX0_open 35 = .ok (.invokevirtual 99, 3) := by decide +kernel
theorem dX0_open_38 : decode cX0_open 38 = .ok (.aload_n 0, 1) := by decide +kernel
theorem dX0_open_39 : decode cX0_open 39 = .ok (.getfield 29, 3) := by decide +kernel
theorem dX0_open_42 : decode cX0_open 42 = .ok (.iload_n 1, 1) := by decide +kernel
theorem dX0_open_43 : decode cX0_open 43 = .ok (.iconst (-1), 1) := by decide +kernel
theorem dX0_open_44 : decode cX0_open 44 = .ok (.invokevirtual 99, 3) := by decide +kernel
theorem dX0_open_47 : decode cX0_open 47 = .ok (.iload 4, 2) := by decide +kernel
theorem dX0_open_49 : decode cX0_open 49 = .ok (.iconst (-1), 1) := by decide +kernel
theorem dX0_open_50 : decode cX0_open 50 = .ok (.if_icmp .ne 4, 3) := by decide +kernel
theorem dX0_open_53 : decode cX0_open 53 = .ok (.return_, 1) := by decide +kernel
theorem dX0_open_54 : decode cX0_open 54 = .ok (.aload_n 0, 1) := by decide +kernel
theorem dX0_open_55 : decode cX0_open 55 = .ok (.getfield 32, 3) := by decide +kernel
theorem dX0_open_58 : decode cX0_open 58 = .ok (.iload_n 1, 1) := by decide +kernel
theorem dX0_open_59 : decode cX0_open 59 = .ok (.aload_n 0, 1) := by decide +kernel
theorem dX0_open_60 : decode cX0_open 60 = .ok (.getfield 50, 3) := by decide +kernel
theorem dX0_open_63 : decode cX0_open 63 = .ok (.invokevirtual 99, 3) := by decide +kernel
theorem dX0_open_66 : decode cX0_open 66 = .ok (.aload_n 0, 1) := by decide +kernel
theorem dX0_open_67 : decode cX0_open 67 = .ok (.getfield 47, 3) := by decide +kernel
theorem dX0_open_70 : decode cX0_open 70 = .ok (.aload_n 0, 1) := by decide +kernel
theorem dX0_open_71 : decode cX0_open 71 = .ok (.getfield 50, 3) := by decide +kernel
theorem dX0_open_74 : decode cX0_open 74 = .ok (.iload_n 1, 1) := by decide +kernel
theorem dX0_open_75 : decode cX0_open 75 = .ok (.invokevirtual 99, 3) := by decide +kernel
theorem dX0_open_78 : decode cX0_open 78 = .ok (.aload_n 0, 1) := by decide +kernel
theorem dX0_open_79 : decode cX0_open 79 = .ok (.dup, 1) := by decide +kernel
theorem dX0_open_80 : decode cX0_open 80 = .ok (.getfield 50, 3) := by decide +kernel
theorem dX0_open_83 : decode cX0_open 83 = .ok (.iconst 1, 1) := by decide +kernel
theorem dX0_open_84 : decode cX0_open 84 = .ok (.iadd, 1) := by decide +kernel
theorem dX0_open_85 : decode cX0_open 85 = .ok (.putfield 50, 3) := by decide +kernel
theorem dX0_open_88 : decode cX0_open 88 = .ok (.iload_n 1, 1) := by decide +kernel
theorem dX0_open_89 : decode cX0_open 89 = .ok (.iconst 1, 1) := by decide +kernel
theorem dX0_open_90 : decode cX0_open 90 = .ok (.iadd, 1) := by decide +kernel
theorem dX0_open_91 : decode cX0_open 91 = .ok (.aload_n 3, 1) := by decide +kernel
theorem dX0_open_92 : decode cX0_open 92 = .ok (.getfield 74, 3) := by decide +kernel
theorem dX0_open_95 : decode cX0_open 95 = .ok (.aload_n 3, 1) := by decide +kernel
theorem dX0_open_96 : decode cX0_open 96 = .ok (.getfield 103, 3) := by decide +kernel
theorem dX0_open_99 : decode cX0_open 99 = .ok (.iload_n 1, 1) := by decide +kernel
theorem dX0_open_100 : decode cX0_open 100 = .ok (.invokevirtual 79, 3) := by decide +kernel
theorem dX0_open_103 : decode cX0_open 103 = .ok (.iconst 1, 1) := by decide +kernel
theorem dX0_open_104 : decode cX0_open 104 = .ok (.iadd, 1) := by decide +kernel
theorem dX0_open_105 : decode cX0_open 105 = .ok (.invokevirtual 79, 3) := by decide +kernel
theorem dX0_open_108 : decode cX0_open 108 = .ok (.if_icmp .lt 7, 3) := by decide +kernel
theorem dX0_open_111 : decode cX0_open 111 = .ok (.iconst 1, 1) := by decide +kernel
theorem dX0_open_112 : decode cX0_open 112 = .ok (.goto 4, 3) := by decide +kernel
theorem dX0_open_115 : decode cX0_open 115 = .ok (.iconst 0, 1) := by decide +kernel
theorem dX0_open_116 : decode cX0_open 116 = .ok (.istore 5, 2) := by decide +kernel
theorem dX0_open_118 : decode cX0_open 118 = .ok (.aload_n 2, 1) := by decide +kernel
theorem dX0_open_119 : decode cX0_open 119 = .ok (.getfield 141, 3) := by decide +kernel
theorem dX0_open_122 : decode cX0_open 122 = .ok (.iload 4, 2) := by decide +kernel
theorem dX0_open_124 : decode cX0_open 124 = .ok (.invokevirtual 79, 3) := by decide +kernel
theorem dX0_open_127 : decode cX0_open 127 = .ok (.iconst 1, 1) := by decide +kernel
theorem dX0_open_128 : decode cX0_open 128 = .ok (.if_icmp .ne 12, 3) := by decide +kernel
theorem dX0_open_131 : decode cX0_open 131 = .ok (.iload 5, 2) := by decide +kernel
theorem dX0_open_133 : decode cX0_open 133 = .ok (.ifCond .ne 7, 3) := by decide +kernel
theorem dX0_open_136 : decode cX0_open 136 = .ok (.iconst 1, 1) := by decide +kernel
theorem dX0_open_137 : decode cX0_open 137 = .ok (.goto 4, 3) := by decide +kernel
theorem dX0_open_140 : decode cX0_open 140 = .ok (.iconst 0, 1) := by decide +kernel
theorem dX0_open_141 : decode cX0_open 141 = .ok (.istore 6, 2) := by decide +kernel
theorem dX0_open_143 : decode cX0_open 143 = .ok (.aload_n 0, 1) := by decide +kernel
theorem dX0_open_144 : decode cX0_open 144 = .ok (.getfield 35, 3) := by decide +kernel
theorem dX0_open_147 : decode cX0_open 147 = .ok (.iload_n 1, 1) := by decide +kernel
theorem dX0_open_148 : decode cX0_open 148 = .ok (.iload 6, 2) := by decide +kernel
theorem dX0_open_150 : decode cX0_open 150 = .ok (.ifCond .eq 16, 3) := by decide +kernel
theorem dX0_open_153 : decode cX0_open 153 = .ok (.aload_n 3, 1) := by decide +kernel
theorem dX0_open_154 : decode cX0_open 154 = .ok (.getfield 106, 3) := by decide +kernel
theorem dX0_open_157 : decode cX0_open 157 = .ok (.iload_n 1, 1) := by decide +kernel
theorem dX0_open_158 : decode cX0_open 158 = .ok (.iconst 1, 1) := by decide +kernel
theorem dX0_open_159 : decode cX0_open 159 = .ok (.iadd, 1) := by decide +kernel
theorem dX0_open_160 : decode cX0_open 160 = .ok (.invokevirtual 79, 3) := by decide +kernel
theorem dX0_open_163 : decode cX0_open 163 = .ok (.goto 4, 3) := by decide +kernel
theorem dX0_open_166 : decode cX0_open 166 = .ok (.iconst 0, 1) := by decide +kernel
theorem dX0_open_167 : decode cX0_open 167 = .ok (.invokevirtual 99, 3) := by decide +kernel
theorem dX0_open_170 : decode cX0_open 170 = .ok (.aload_n 0, 1) := by decide +kernel
theorem dX0_open_171 : decode cX0_open 171 = .ok (.getfield 38, 3) := by decide +kernel
theorem dX0_open_174 : decode cX0_open 174 = .ok (.iload_n 1, 1) := by decide +kernel
theorem dX0_open_175 : decode cX0_open 175 = .ok (.iload 6, 2) := by decide +kernel
theorem dX0_open_177 : decode cX0_open 177 = .ok (.ifCond .eq 7, 3) := by decide +kernel
theorem dX0_open_180 : decode cX0_open 180 = .ok (.iconst 0, 1) := by decide +kernel
theorem dX0_open_181 : decode cX0_open 181 = .ok (.goto 12, 3) := by decide +kernel
theorem dX0_open_184 : decode cX0_open 184 = .ok (.aload_n 2, 1) := by decide +kernel
theorem dX0_open_185 : decode cX0_open 185 = .ok (.getfield 144, 3) := by decide +kernel
theorem dX0_open_188 : decode cX0_open 188 = .ok (.iload 4, 2) := by decide +kernel
theorem dX0_open_190 : decode cX0_open 190 = .ok (.invokevirtual 79, 3) := by decide +kernel
theorem dX0_open_193 : decode cX0_open 193 = .ok (.invokevirtual 99, 3) := by decide +kernel
theorem dX0_open_196 : decode cX0_open 196 = .ok (.return_, 1) := by decide +kernel
theorem dX0_lastLeadingCloser_0 : decode cX0_lastLeadingCloser 0 = .ok (.iconst (-1), 1) := by decide +kernel
theorem dX0_lastLeadingCloser_1 : decode cX0_lastLeadingCloser 1 = .ok (.istore_n 3, 1) := by decide +kernel
theorem dX0_lastLeadingCloser_2 : decode cX0_lastLeadingCloser 2 = .ok (.iload_n 1, 1) := by decide +kernel
theorem dX0_lastLeadingCloser_3 : decode cX0_lastLeadingCloser 3 = .ok (.istore 4, 2) := by decide +kernel
theorem dX0_lastLeadingCloser_5 : decode cX0_lastLeadingCloser 5 = .ok (.iload 4, 2) := by decide +kernel
theorem dX0_lastLeadingCloser_7 : decode cX0_lastLeadingCloser 7 = .ok (.iload_n 2, 1) := by decide +kernel
theorem dX0_lastLeadingCloser_8 : decode cX0_lastLeadingCloser 8 = .ok (.if_icmp .ge 42, 3) := by decide +kernel
theorem dX0_lastLeadingCloser_11 : decode cX0_lastLeadingCloser 11 = .ok (.aload_n 0, 1) := by decide +kernel
theorem dX0_lastLeadingCloser_12 : decode cX0_lastLeadingCloser 12 = .ok (.getfield 26, 3) := by decide +kernel
theorem dX0_lastLeadingCloser_15 : decode cX0_lastLeadingCloser 15 = .ok (.iload 4, 2) := by decide +kernel
theorem dX0_lastLeadingCloser_17 : decode cX0_lastLeadingCloser 17 = .ok (.invokevirtual 79, 3) := by decide +kernel
theorem dX0_lastLeadingCloser_20 : decode cX0_lastLeadingCloser 20 = .ok (.iconst (-1), 1) := by decide +kernel
theorem dX0_lastLeadingCloser_21 : decode cX0_lastLeadingCloser 21 = .ok (.if_icmp .ne 5, 3) := by decide +kernel
theorem dX0_lastLeadingCloser_24 : decode cX0_lastLeadingCloser 24 = .ok (.iload_n 3, 1) := by decide +kernel
theorem dX0_lastLeadingCloser_25 : decode cX0_lastLeadingCloser 25 = .ok (.ireturn, 1) := by decide +kernel
theorem dX0_lastLeadingCloser_26 : decode cX0_lastLeadingCloser 26 = .ok (.iload 4, 2) := by decide +kernel
theorem dX0_lastLeadingCloser_28 : decode cX0_lastLeadingCloser 28 = .ok (.istore_n 3, 1) := by decide +kernel
theorem dX0_lastLeadingCloser_29 : decode cX0_lastLeadingCloser 29 = .ok (.aload_n 0, 1) := by decide +kernel
theorem dX0_lastLeadingCloser_30 : decode cX0_lastLeadingCloser 30 = .ok (.getfield 23, 3) := by decide +kernel
theorem dX0_lastLeadingCloser_33 : decode cX0_lastLeadingCloser 33 = .ok (.iload 4, 2) := by decide +kernel
theorem dX0_lastLeadingCloser_35 : decode cX0_lastLeadingCloser 35 = .ok (.invokevirtual 79, 3) := by decide +kernel
theorem dX0_lastLeadingCloser_38 : decode cX0_lastLeadingCloser 38 = .ok (.iconst (-1), 1) := by decide +kernel
theorem dX0_lastLeadingCloser_39 : decode cX0_lastLeadingCloser 39 = .ok (.if_icmp .eq 5, 3) := by decide +kernel
theorem dX0_lastLeadingCloser_42 : decode cX0_lastLeadingCloser 42 = .ok (.iload_n 3, 1) := by decide +kernel
theorem dX0_lastLeadingCloser_43 : decode cX0_lastLeadingCloser 43 = .ok (.ireturn, 1) := by decide +kernel
theorem dX0_lastLeadingCloser_44 : decode cX0_lastLeadingCloser 44 = .ok (.iinc 4 1, 3) := by decide +kernel
theorem dX0_lastLeadingCloser_47 : decode cX0_lastLeadingCloser 47 = .ok (.goto (-42), 3) := by decide +kernel
theorem dX0_lastLeadingCloser_50 : decode cX0_lastLeadingCloser 50 = .ok (.iload_n 3, 1) := by decide +kernel
theorem dX0_lastLeadingCloser_51 : decode cX0_lastLeadingCloser 51 = .ok (.ireturn, 1) := by decide +kernel
theorem dX1_init_0 : decode cX1_init 0 = .ok (.aload_n 0, 1) := by decide +kernel
theorem dX1_init_1 : decode cX1_init 1 = .ok (.invokespecial 3, 3) := by decide +kernel
theorem dX1_init_4 : decode cX1_init 4 = .ok (.aload_n 0, 1) := by decide +kernel
theorem dX1_init_5 : decode cX1_init 5 = .ok (.iconst 0, 1) := by decide +kernel
theorem dX1_init_6 : decode cX1_init 6 = .ok (.putfield 9, 3) := by decide +kernel
theorem dX1_init_9 : decode cX1_init 9 = .ok (.aload_n 0, 1) := by decide +kernel
theorem dX1_init_10 : decode cX1_init 10 = .ok (.new 15, 3) := by decide +kernel
theorem dX1_init_13 : decode cX1_init 13 = .ok (.dup, 1) := by decide +kernel
theorem dX1_init_14 : decode cX1_init 14 = .ok (.bipush 72, 2) := by decide +kernel
theorem dX1_init_16 : decode cX1_init 16 = .ok (.invokespecial 17, 3) := by decide +kernel
theorem dX1_init_19 : decode cX1_init 19 = .ok (.putfield 20, 3) := by decide +kernel
theorem dX1_init_22 : decode cX1_init 22 = .ok (.return_, 1) := by decide +kernel
theorem dX1_add_0 : decode cX1_add 0 = .ok (.aload_n 0, 1) := by decide +kernel
theorem dX1_add_1 : decode cX1_add 1 = .ok (.getfield 9, 3) := by decide +kernel
theorem dX1_add_4 : decode cX1_add 4 = .ok (.bipush 72, 2) := by decide +kernel
theorem dX1_add_6 : decode cX1_add 6 = .ok (.if_icmp .ge 25, 3) := by decide +kernel
theorem dX1_add_9 : decode cX1_add 9 = .ok (.aload_n 0, 1) := by decide +kernel
theorem dX1_add_10 : decode cX1_add 10 = .ok (.getfield 20, 3) := by decide +kernel
theorem dX1_add_13 : decode cX1_add 13 = .ok (.aload_n 0, 1) := by decide +kernel
theorem dX1_add_14 : decode cX1_add 14 = .ok (.getfield 9, 3) := by decide +kernel
theorem dX1_add_17 : decode cX1_add 17 = .ok (.iload_n 1, 1) := by decide +kernel
theorem dX1_add_18 : decode cX1_add 18 = .ok (.invokevirtual 24, 3) := by decide +kernel
theorem dX1_add_21 : decode cX1_add 21 = .ok (.aload_n 0, 1) := by decide +kernel
theorem dX1_add_22 : decode cX1_add 22 = .ok (.dup, 1) := by decide +kernel
theorem dX1_add_23 : decode cX1_add 23 = .ok (.getfield 9, 3) := by decide +kernel
theorem dX1_add_26 : decode cX1_add 26 = .ok (.iconst 1, 1) := by decide +kernel
theorem dX1_add_27 : decode cX1_add 27 = .ok (.iadd, 1) := by decide +kernel
theorem dX1_add_28 : decode cX1_add 28 = .ok (.putfield 9, 3) := by decide +kernel
theorem dX1_add_31 : decode cX1_add 31 = .ok (.return_, 1) := by decide +kernel
theorem dX1_byteOf_0 : decode cX1_byteOf 0 = .ok (.iload_n 1, 1) := by decide +kernel
theorem dX1_byteOf_1 : decode cX1_byteOf 1 = .ok (.ifCond .lt 22, 3) := by decide +kernel
theorem dX1_byteOf_4 : decode cX1_byteOf 4 = .ok (.iload_n 1, 1) := by decide +kernel
theorem dX1_byteOf_5 : decode cX1_byteOf 5 = .ok (.aload_n 0, 1) := by decide +kernel
theorem dX1_byteOf_6 : decode cX1_byteOf 6 = .ok (.getfield 9, 3) := by decide +kernel
theorem dX1_byteOf_9 : decode cX1_byteOf 9 = .ok (.if_icmp .ge 14, 3) := by decide +kernel
theorem dX1_byteOf_12 : decode cX1_byteOf 12 = .ok (.aload_n 0, 1) := by decide +kernel
theorem dX1_byteOf_13 : decode cX1_byteOf 13 = .ok (.getfield 20, 3) := by decide +kernel
theorem dX1_byteOf_16 : decode cX1_byteOf 16 = .ok (.iload_n 1, 1) := by decide +kernel
theorem dX1_byteOf_17 : decode cX1_byteOf 17 = .ok (.invokevirtual 28, 3) := by decide +kernel
theorem dX1_byteOf_20 : decode cX1_byteOf 20 = .ok (.goto 4, 3) := by decide +kernel
theorem dX1_byteOf_23 : decode cX1_byteOf 23 = .ok (.iconst 0, 1) := by decide +kernel
theorem dX1_byteOf_24 : decode cX1_byteOf 24 = .ok (.ireturn, 1) := by decide +kernel
theorem dX1_contentStart_0 : decode cX1_contentStart 0 = .ok (.iconst 0, 1) := by decide +kernel
theorem dX1_contentStart_1 : decode cX1_contentStart 1 = .ok (.istore_n 1, 1) := by decide +kernel
theorem dX1_contentStart_2 : decode cX1_contentStart 2 = .ok (.iload_n 1, 1) := by decide +kernel
theorem dX1_contentStart_3 : decode cX1_contentStart 3 = .ok (.aload_n 0, 1) := by decide +kernel
theorem dX1_contentStart_4 : decode cX1_contentStart 4 = .ok (.getfield 9, 3) := by decide +kernel
theorem dX1_contentStart_7 : decode cX1_contentStart 7 = .ok (.if_icmp .ge 22, 3) := by decide +kernel
theorem dX1_contentStart_10 : decode cX1_contentStart 10 = .ok (.aload_n 0, 1) := by decide +kernel
theorem dX1_contentStart_11 : decode cX1_contentStart 11 = .ok (.getfield 20, 3) := by decide +kernel
theorem dX1_contentStart_14 : decode cX1_contentStart 14 = .ok (.iload_n 1, 1) := by decide +kernel
theorem dX1_contentStart_15 : decode cX1_contentStart 15 = .ok (.invokevirtual 28, 3) := by decide +kernel
theorem dX1_contentStart_18 : decode cX1_contentStart 18 = .ok (.bipush 32, 2) := by decide +kernel
theorem dX1_contentStart_20 : decode cX1_contentStart 20 = .ok (.if_icmp .ne 9, 3) := by decide +kernel
theorem dX1_contentStart_23 : decode cX1_contentStart 23 = .ok (.iinc 1 1, 3) := by decide +kernel
theorem dX1_contentStart_26 : decode cX1_contentStart 26 = .ok (.goto (-24), 3) := by decide +kernel
theorem dX1_contentStart_29 : decode cX1_contentStart 29 = .ok (.iload_n 1, 1) := by decide +kernel
theorem dX1_contentStart_30 : decode cX1_contentStart 30 = .ok (.ireturn, 1) := by decide +kernel
theorem dX1_contentEnd_0 : decode cX1_contentEnd 0 = .ok (.aload_n 0, 1) := by decide +kernel
theorem dX1_contentEnd_1 : decode cX1_contentEnd 1 = .ok (.getfield 9, 3) := by decide +kernel
theorem dX1_contentEnd_4 : decode cX1_contentEnd 4 = .ok (.istore_n 1, 1) := by decide +kernel
theorem dX1_contentEnd_5 : decode cX1_contentEnd 5 = .ok (.iload_n 1, 1) := by decide +kernel
theorem dX1_contentEnd_6 : decode cX1_contentEnd 6 = .ok (.ifCond .le 24, 3) := by decide +kernel
theorem dX1_contentEnd_9 : decode cX1_contentEnd 9 = .ok (.aload_n 0, 1) := by decide +kernel
theorem dX1_contentEnd_10 : decode cX1_contentEnd 10 = .ok (.getfield 20, 3) := by decide +kernel
theorem dX1_contentEnd_13 : decode cX1_contentEnd 13 = .ok (.iload_n 1, 1) := by decide +kernel
theorem dX1_contentEnd_14 : decode cX1_contentEnd 14 = .ok (.iconst 1, 1) := by decide +kernel
theorem dX1_contentEnd_15 : decode cX1_contentEnd 15 = .ok (.isub, 1) := by decide +kernel
theorem dX1_contentEnd_16 : decode cX1_contentEnd 16 = .ok (.invokevirtual 28, 3) := by decide +kernel
theorem dX1_contentEnd_19 : decode cX1_contentEnd 19 = .ok (.bipush 32, 2) := by decide +kernel
theorem dX1_contentEnd_21 : decode cX1_contentEnd 21 = .ok (.if_icmp .ne 9, 3) := by decide +kernel
theorem dX1_contentEnd_24 : decode cX1_contentEnd 24 = .ok (.iinc 1 (-1), 3) := by decide +kernel
theorem dX1_contentEnd_27 : decode cX1_contentEnd 27 = .ok (.goto (-22), 3) := by decide +kernel
theorem dX1_contentEnd_30 : decode cX1_contentEnd 30 = .ok (.iload_n 1, 1) := by decide +kernel
theorem dX1_contentEnd_31 : decode cX1_contentEnd 31 = .ok (.ireturn, 1) := by decide +kernel
theorem dX1_isLine_0 : decode cX1_isLine 0 = .ok (.aload_n 0, 1) := by decide +kernel
theorem dX1_isLine_1 : decode cX1_isLine 1 = .ok (.invokevirtual 32, 3) := by decide +kernel
theorem dX1_isLine_4 : decode cX1_isLine 4 = .ok (.istore_n 1, 1) := by decide +kernel
theorem dX1_isLine_5 : decode cX1_isLine 5 = .ok (.iload_n 1, 1) := by decide +kernel
theorem dX1_isLine_6 : decode cX1_isLine 6 = .ok (.aload_n 0, 1) := by decide +kernel
theorem dX1_isLine_7 : decode cX1_isLine 7 = .ok (.getfield 9, 3) := by decide +kernel
theorem dX1_isLine_10 : decode cX1_isLine 10 = .ok (.if_icmp .eq 20, 3) := by decide +kernel
theorem dX1_isLine_13 : decode cX1_isLine 13 = .ok (.iload_n 1, 1) := by decide +kernel
theorem dX1_isLine_14 : decode cX1_isLine 14 = .ok (.bipush 40, 2) := by decide +kernel
theorem dX1_isLine_16 : decode cX1_isLine 16 = .ok (.if_icmp .gt 18, 3) := by decide +kernel
theorem dX1_isLine_19 : decode cX1_isLine 19 = .ok (.aload_n 0, 1) := by decide +kernel
theorem dX1_isLine_20 : decode cX1_isLine 20 = .ok (.invokevirtual 36, 3) := by decide +kernel
theorem dX1_isLine_23 : decode cX1_isLine 23 = .ok (.iload_n 1, 1) := by decide +kernel
theorem dX1_isLine_24 : decode cX1_isLine 24 = .ok (.isub, 1) := by decide +kernel
theorem dX1_isLine_25 : decode cX1_isLine 25 = .ok (.bipush 32, 2) := by decide +kernel
theorem dX1_isLine_27 : decode cX1_isLine 27 = .ok (.if_icmp .gt 7, 3) := by decide +kernel
theorem dX1_isLine_30 : decode cX1_isLine 30 = .ok (.iconst 1, 1) := by decide +kernel
theorem dX1_isLine_31 : decode cX1_isLine 31 = .ok (.goto 4, 3) := by decide +kernel
theorem dX1_isLine_34 : decode cX1_isLine 34 = .ok (.iconst 0, 1) := by decide +kernel
theorem dX1_isLine_35 : decode cX1_isLine 35 = .ok (.ireturn, 1) := by decide +kernel
theorem dX1_writeLine_0 : decode cX1_writeLine 0 = .ok (.aload_n 0, 1) := by decide +kernel
theorem dX1_writeLine_1 : decode cX1_writeLine 1 = .ok (.invokevirtual 32, 3) := by decide +kernel
theorem dX1_writeLine_4 : decode cX1_writeLine 4 = .ok (.istore_n 3, 1) := by decide +kernel
theorem dX1_writeLine_5 : decode cX1_writeLine 5 = .ok (.aload_n 1, 1) := by decide +kernel
theorem dX1_writeLine_6 : decode cX1_writeLine 6 = .ok (.getfield 39, 3) := by decide +kernel
theorem dX1_writeLine_9 : decode cX1_writeLine 9 = .ok (.iload_n 2, 1) := by decide +kernel
theorem dX1_writeLine_10 : decode cX1_writeLine 10 = .ok (.iload_n 3, 1) := by decide +kernel
theorem dX1_writeLine_11 : decode cX1_writeLine 11 = .ok (.aload_n 0, 1) := by decide +kernel
theorem dX1_writeLine_12 : decode cX1_writeLine 12 = .ok (.getfield 9, 3) := by decide +kernel
theorem dX1_writeLine_15 : decode cX1_writeLine 15 = .ok (.if_icmp .ne 7, 3) := by decide +kernel
theorem dX1_writeLine_18 : decode cX1_writeLine 18 = .ok (.iconst 0, 1) := by decide +kernel
theorem dX1_writeLine_19 : decode cX1_writeLine 19 = .ok (.goto 4, 3) := by decide +kernel
theorem dX1_writeLine_22 : decode cX1_writeLine 22 = .ok (.iload_n 3, 1) := by decide +kernel
theorem dX1_writeLine_23 : decode cX1_writeLine 23 = .ok (.invokevirtual 24, 3) := by decide +kernel
theorem dX1_writeLine_26 : decode cX1_writeLine 26 = .ok (.aload_n 1, 1) := by decide +kernel
theorem dX1_writeLine_27 : decode cX1_writeLine 27 = .ok (.getfield 44, 3) := by decide +kernel
theorem dX1_writeLine_30 : decode cX1_writeLine 30 = .ok (.iload_n 2, 1) := by decide +kernel
theorem dX1_writeLine_31 : decode cX1_writeLine 31 = .ok (.iconst 0, 1) := by decide +kernel
theorem dX1_writeLine_32 : decode cX1_writeLine 32 = .ok (.invokevirtual 24, 3) := by decide +kernel
theorem dX1_writeLine_35 : decode cX1_writeLine 35 = .ok (.aload_n 0, 1) := by decide +kernel
theorem dX1_writeLine_36 : decode cX1_writeLine 36 = .ok (.invokevirtual 36, 3) := by decide +kernel
theorem dX1_writeLine_39 : decode cX1_writeLine 39 = .ok (.istore 4, 2) := by decide +kernel
theorem dX1_writeLine_41 : decode cX1_writeLine 41 = .ok (.iload_n 3, 1) := by decide +kernel
theorem dX1_writeLine_42 : decode cX1_writeLine 42 = .ok (.istore 5, 2) := by decide +kernel
theorem dX1_writeLine_44 : decode cX1_writeLine 44 = .ok (.iload 5, 2) := by decide +kernel
theorem dX1_writeLine_46 : decode cX1_writeLine 46 = .ok (.iload 4, 2) := by decide +kernel
theorem dX1_writeLine_48 : decode cX1_writeLine 48 = .ok (.if_icmp .ge 23, 3) := by decide +kernel
theorem dX1_writeLine_51 : decode cX1_writeLine 51 = .ok (.aload_n 1, 1) := by decide +kernel
theorem dX1_writeLine_52 : decode cX1_writeLine 52 = .ok (.iload_n 2, 1) := by decide +kernel
theorem dX1_writeLine_53 : decode cX1_writeLine 53 = .ok (.aload_n 0, 1) := by decide +kernel
theorem dX1_writeLine_54 : decode cX1_writeLine 54 = .ok (.getfield 20, 3) := by decide +kernel
theorem dX1_writeLine_57 : decode cX1_writeLine 57 = .ok (.iload 5, 2) := by decide +kernel
theorem dX1_writeLine_59 : decode cX1_writeLine 59 = .ok (.invokevirtual 28, 3) := by decide +kernel
theorem dX1_writeLine_62 : decode cX1_writeLine 62 = .ok (.invokevirtual 47, 3) := by decide +kernel
theorem dX1_writeLine_65 : decode cX1_writeLine 65 = .ok (.iinc 5 1, 3) := by decide +kernel
theorem dX1_writeLine_68 : decode cX1_writeLine 68 = .ok (.goto (-24), 3) := by decide +kernel
theorem dX1_writeLine_71 : decode cX1_writeLine 71 = .ok (.return_, 1) := by decide +kernel
theorem dX2_init_0 : decode cX2_init 0 = .ok (.aload_n 0, 1) := by decide +kernel
theorem dX2_init_1 : decode cX2_init 1 = .ok (.invokespecial 3, 3) := by decide +kernel
theorem dX2_init_4 : decode cX2_init 4 = .ok (.aload_n 0, 1) := by decide +kernel
theorem dX2_init_5 : decode cX2_init 5 = .ok (.iconst 0, 1) := by decide +kernel
theorem dX2_init_6 : decode cX2_init 6 = .ok (.putfield 9, 3) := by decide +kernel
theorem dX2_init_9 : decode cX2_init 9 = .ok (.aload_n 0, 1) := by decide +kernel
theorem dX2_init_10 : decode cX2_init 10 = .ok (.iconst 0, 1) := by decide +kernel
theorem dX2_init_11 : decode cX2_init 11 = .ok (.putfield 15, 3) := by decide +kernel
theorem dX2_init_14 : decode cX2_init 14 = .ok (.aload_n 0, 1) := by decide +kernel
theorem dX2_init_15 : decode cX2_init 15 = .ok (.bipush 8, 2) := by decide +kernel
theorem dX2_init_17 : decode cX2_init 17 = .ok (.anewarray 18, 3) := by decide +kernel
theorem dX2_init_20 : decode cX2_init 20 = .ok (.putfield 20, 3) := by decide +kernel
theorem dX2_init_23 : decode cX2_init 23 = .ok (.iconst 0, 1) := by decide +kernel
theorem dX2_init_24 : decode cX2_init 24 = .ok (.istore_n 1, 1) := by decide +kernel
theorem dX2_init_25 : decode cX2_init 25 = .ok (.iload_n 1, 1) := by decide +kernel
theorem dX2_init_26 : decode cX2_init 26 = .ok (.aload_n 0, 1) := by decide +kernel
theorem dX2_init_27 : decode cX2_init 27 = .ok (.getfield 20, 3) := by decide +kernel
theorem dX2_init_30 : decode cX2_init 30 = .ok (.arraylength, 1) := by decide +kernel
theorem dX2_init_31 : decode cX2_init 31 = .ok (.if_icmp .ge 22, 3) := by decide +kernel
theorem dX2_init_34 : decode cX2_init 34 = .ok (.aload_n 0, 1) := by decide +kernel
theorem dX2_init_35 : decode cX2_init 35 = .ok (.getfield 20, 3) := by decide +kernel
theorem dX2_init_38 : decode cX2_init 38 = .ok (.iload_n 1, 1) := by decide +kernel
theorem dX2_init_39 : decode cX2_init 39 = .ok (.new 18, 3) := by decide +kernel
theorem dX2_init_42 : decode cX2_init 42 = .ok (.dup, 1) := by decide +kernel
theorem dX2_init_43 : decode cX2_init 43 = .ok (.invokespecial 24, 3) := by decide +kernel
theorem dX2_init_46 : decode cX2_init 46 = .ok (.aastore, 1) := by decide +kernel
theorem dX2_init_47 : decode cX2_init 47 = .ok (.iinc 1 1, 3) := by decide +kernel
theorem dX2_init_50 : decode cX2_init 50 = .ok (.goto (-25), 3) := by decide +kernel
theorem dX2_init_53 : decode cX2_init 53 = .ok (.return_, 1) := by decide +kernel
theorem dX2_remember_0 : decode cX2_remember 0 = .ok (.aload_n 0, 1) := by decide +kernel
theorem dX2_remember_1 : decode cX2_remember 1 = .ok (.getfield 9, 3) := by decide +kernel
theorem dX2_remember_4 : decode cX2_remember 4 = .ok (.bipush 8, 2) := by decide +kernel
theorem dX2_remember_6 : decode cX2_remember 6 = .ok (.if_icmp .lt 22, 3) := by decide +kernel
theorem dX2_remember_9 : decode cX2_remember 9 = .ok (.aload_n 0, 1) := by decide +kernel
theorem dX2_remember_10 : decode cX2_remember 10 = .ok (.aload_n 0, 1) := by decide +kernel
theorem dX2_remember_11 : decode cX2_remember 11 = .ok (.getfield 15, 3) := by decide +kernel
theorem dX2_remember_14 : decode cX2_remember 14 = .ok (.iconst 1, 1) := by decide +kernel
theorem dX2_remember_15 : decode cX2_remember 15 = .ok (.iadd, 1) := by decide +kernel
theorem dX2_remember_16 : decode cX2_remember 16 = .ok (.bipush 8, 2) := by decide +kernel
theorem dX2_remember_18 : decode cX2_remember 18 = .ok (.irem, 1) := by decide +kernel
theorem dX2_remember_19 : decode cX2_remember 19 = .ok (.putfield 15, 3) := by decide +kernel
theorem dX2_remember_22 : decode cX2_remember 22 = .ok (.aload_n 0, 1) := by decide +kernel
theorem dX2_remember_23 : decode cX2_remember 23 = .ok (.bipush 7, 2) := by decide +kernel
theorem dX2_remember_25 : decode cX2_remember 25 = .ok (.putfield 9, 3) := by decide +kernel
theorem dX2_remember_28 : decode cX2_remember 28 = .ok (.aload_n 0, 1) := by decide +kernel
theorem dX2_remember_29 : decode cX2_remember 29 = .ok (.aload_n 0, 1) := by decide +kernel
theorem dX2_remember_30 : decode cX2_remember 30 = .ok (.getfield 9, 3) := by decide +kernel
theorem dX2_remember_33 : decode cX2_remember 33 = .ok (.invokevirtual 25, 3) := by decide +kernel
theorem dX2_remember_36 : decode cX2_remember 36 = .ok (.astore_n 2, 1) := by decide +kernel
theorem dX2_remember_37 : decode cX2_remember 37 = .ok (.aload_n 2, 1) := by decide +kernel
theorem dX2_remember_38 : decode cX2_remember 38 = .ok (.ifnull 18, 3) := by decide +kernel
theorem dX2_remember_41 : decode cX2_remember 41 = .ok (.aload_n 2, 1) := by decide +kernel
theorem dX2_remember_42 : decode cX2_remember 42 = .ok (.aload_n 1, 1) := by decide +kernel
theorem dX2_remember_43 : decode cX2_remember 43 = .ok (.invokevirtual 29, 3) := by decide +kernel
theorem dX2_remember_46 : decode cX2_remember 46 = .ok (.aload_n 0, 1) := by decide +kernel
theorem dX2_remember_47 : decode cX2_remember 47 = .ok (.dup, 1) := by decide +kernel
theorem dX2_remember_48 : decode cX2_remember 48 = .ok (.getfield 9, 3) := by decide +kernel
theorem dX2_remember_51 : decode cX2_remember 51 = .ok (.iconst 1, 1) := by decide +kernel
theorem dX2_remember_52 : decode cX2_remember 52 = .ok (.iadd, 1) := by decide +kernel
theorem dX2_remember_53 : decode cX2_remember 53 = .ok (.putfield 9, 3) := by decide +kernel
theorem dX2_remember_56 : decode cX2_remember 56 = .ok (.return_, 1) := by decide +kernel
theorem dX2_takeLatest_0 : decode cX2_takeLatest 0 = .ok (.aload_n 0, 1) := by decide +kernel
theorem dX2_takeLatest_1 : decode cX2_takeLatest 1 = .ok (.aload_n 0, 1) := by decide +kernel
theorem dX2_takeLatest_2 : decode cX2_takeLatest 2 = .ok (.getfield 9, 3) := by decide +kernel
theorem dX2_takeLatest_5 : decode cX2_takeLatest 5 = .ok (.iconst 1, 1) := by decide +kernel
theorem dX2_takeLatest_6 : decode cX2_takeLatest 6 = .ok (.isub, 1) := by decide +kernel
theorem dX2_takeLatest_7 : decode cX2_takeLatest 7 = .ok (.invokevirtual 25, 3) := by decide +kernel
theorem dX2_takeLatest_10 : decode cX2_takeLatest 10 = .ok (.astore_n 2, 1) := by decide +kernel
theorem dX2_takeLatest_11 : decode cX2_takeLatest 11 = .ok (.aload_n 2, 1) := by decide +kernel
theorem dX2_takeLatest_12 : decode cX2_takeLatest 12 = .ok (.ifnull 18, 3) := by decide +kernel
theorem dX2_takeLatest_15 : decode cX2_takeLatest 15 = .ok (.aload_n 1, 1) := by decide +kernel
theorem dX2_takeLatest_16 : decode cX2_takeLatest 16 = .ok (.aload_n 2, 1) := by decide +kernel
theorem dX2_takeLatest_17 : decode cX2_takeLatest 17 = .ok (.invokevirtual 29, 3) := by decide +kernel
theorem dX2_takeLatest_20 : decode cX2_takeLatest 20 = .ok (.aload_n 0, 1) := by decide +kernel
theorem dX2_takeLatest_21 : decode cX2_takeLatest 21 = .ok (.dup, 1) := by decide +kernel
theorem dX2_takeLatest_22 : decode cX2_takeLatest 22 = .ok (.getfield 9, 3) := by decide +kernel
theorem dX2_takeLatest_25 : decode cX2_takeLatest 25 = .ok (.iconst 1, 1) := by decide +kernel
theorem dX2_takeLatest_26 : decode cX2_takeLatest 26 = .ok (.isub, 1) := by decide +kernel
theorem dX2_takeLatest_27 : decode cX2_takeLatest 27 = .ok (.putfield 9, 3) := by decide +kernel
theorem dX2_takeLatest_30 : decode cX2_takeLatest 30 = .ok (.return_, 1) := by decide +kernel
theorem dX2_at_0 : decode cX2_at 0 = .ok (.aload_n 0, 1) := by decide +kernel
theorem dX2_at_1 : decode cX2_at 1 = .ok (.getfield 15, 3) := by decide +kernel
theorem dX2_at_4 : decode cX2_at 4 = .ok (.iload_n 1, 1) := by decide +kernel
theorem dX2_at_5 : decode cX2_at 5 = .ok (.iadd, 1) := by decide +kernel
theorem dX2_at_6 : decode cX2_at 6 = .ok (.bipush 8, 2) := by decide +kernel
theorem dX2_at_8 : decode cX2_at 8 = .ok (.irem, 1) := by decide +kernel
theorem dX2_at_9 : decode cX2_at 9 = .ok (.istore_n 2, 1) := by decide +kernel
theorem dX2_at_10 : decode cX2_at 10 = .ok (.iload_n 1, 1) := by decide +kernel
theorem dX2_at_11 : decode cX2_at 11 = .ok (.ifCond .lt 25, 3) := by decide +kernel
theorem dX2_at_14 : decode cX2_at 14 = .ok (.iload_n 2, 1) := by decide +kernel
theorem dX2_at_15 : decode cX2_at 15 = .ok (.ifCond .lt 21, 3) := by decide +kernel
theorem dX2_at_18 : decode cX2_at 18 = .ok (.iload_n 2, 1) := by decide +kernel
theorem dX2_at_19 : decode cX2_at 19 = .ok (.aload_n 0, 1) := by decide +kernel
theorem dX2_at_20 : decode cX2_at 20 = .ok (.getfield 20, 3) := by decide +kernel
theorem dX2_at_23 : decode cX2_at 23 = .ok (.arraylength, 1) := by decide +kernel
theorem dX2_at_24 : decode cX2_at 24 = .ok (.if_icmp .ge 12, 3) := by decide +kernel
theorem dX2_at_27 : decode cX2_at 27 = .ok (.aload_n 0, 1) := by decide +kernel
theorem dX2_at_28 : decode cX2_at 28 = .ok (.getfield 20, 3) := by decide +kernel
theorem dX2_at_31 : decode cX2_at 31 = .ok (.iload_n 2, 1) := by decide +kernel
theorem dX2_at_32 : decode cX2_at 32 = .ok (.aaload, 1) := by decide +kernel
theorem dX2_at_33 : decode cX2_at 33 = .ok (.goto 4, 3) := by decide +kernel
theorem dX2_at_36 : decode cX2_at 36 = .ok (.aconst_null, 1) := by decide +kernel
theorem dX2_at_37 : decode cX2_at 37 = .ok (.areturn, 1) := by decide +kernel
theorem dX3_init_0 : decode cX3_init 0 = .ok (.aload_n 0, 1) := by decide +kernel
theorem dX3_init_1 : decode cX3_init 1 = .ok (.invokespecial 3, 3) := by decide +kernel
theorem dX3_init_4 : decode cX3_init 4 = .ok (.aload_n 0, 1) := by decide +kernel
theorem dX3_init_5 : decode cX3_init 5 = .ok (.iconst 0, 1) := by decide +kernel
theorem dX3_init_6 : decode cX3_init 6 = .ok (.putfield 9, 3) := by decide +kernel
theorem dX3_init_9 : decode cX3_init 9 = .ok (.aload_n 0, 1) := by decide +kernel
theorem dX3_init_10 : decode cX3_init 10 = .ok (.new 15, 3) := by decide +kernel
theorem dX3_init_13 : decode cX3_init 13 = .ok (.dup, 1) := by decide +kernel
theorem dX3_init_14 : decode cX3_init 14 = .ok (.bipush 20, 2) := by decide +kernel
theorem dX3_init_16 : decode cX3_init 16 = .ok (.invokespecial 17, 3) := by decide +kernel
theorem dX3_init_19 : decode cX3_init 19 = .ok (.putfield 20, 3) := by decide +kernel
theorem dX3_init_22 : decode cX3_init 22 = .ok (.aload_n 0, 1) := by decide +kernel
theorem dX3_init_23 : decode cX3_init 23 = .ok (.new 15, 3) := by decide +kernel
theorem dX3_init_26 : decode cX3_init 26 = .ok (.dup, 1) := by decide +kernel
theorem dX3_init_27 : decode cX3_init 27 = .ok (.bipush 20, 2) := by decide +kernel
theorem dX3_init_29 : decode cX3_init 29 = .ok (.invokespecial 17, 3) := by decide +kernel
theorem dX3_init_32 : decode cX3_init 32 = .ok (.putfield 24, 3) := by decide +kernel
theorem dX3_init_35 : decode cX3_init 35 = .ok (.aload_n 0, 1) := by decide +kernel
theorem dX3_init_36 : decode cX3_init 36 = .ok (.new 15, 3) := by decide +kernel
theorem dX3_init_39 : decode cX3_init 39 = .ok (.dup, 1) := by decide +kernel
theorem dX3_init_40 : decode cX3_init 40 = .ok (.bipush 20, 2) := by decide +kernel
theorem dX3_init_42 : decode cX3_init 42 = .ok (.invokespecial 17, 3) := by decide +kernel
theorem dX3_init_45 : decode cX3_init 45 = .ok (.putfield 27, 3) := by decide +kernel
theorem dX3_init_48 : decode cX3_init 48 = .ok (.aload_n 0, 1) := by decide +kernel
theorem dX3_init_49 : decode cX3_init 49 = .ok (.new 15, 3) := by decide +kernel
theorem dX3_init_52 : decode cX3_init 52 = .ok (.dup, 1) := by decide +kernel
theorem dX3_init_53 : decode cX3_init 53 = .ok (.sipush 640, 3) := by decide +kernel
theorem dX3_init_56 : decode cX3_init 56 = .ok (.invokespecial 17, 3) := by decide +kernel
theorem dX3_init_59 : decode cX3_init 59 = .ok (.putfield 30, 3) := by decide +kernel
theorem dX3_init_62 : decode cX3_init 62 = .ok (.return_, 1) := by decide +kernel
theorem dX3_has_0 : decode cX3_has 0 = .ok (.iload_n 1, 1) := by decide +kernel
theorem dX3_has_1 : decode cX3_has 1 = .ok (.ifCond .lt 15, 3) := by decide +kernel
theorem dX3_has_4 : decode cX3_has 4 = .ok (.iload_n 1, 1) := by decide +kernel
theorem dX3_has_5 : decode cX3_has 5 = .ok (.aload_n 0, 1) := by decide +kernel
theorem dX3_has_6 : decode cX3_has 6 = .ok (.getfield 9, 3) := by decide +kernel
theorem dX3_has_9 : decode cX3_has 9 = .ok (.if_icmp .ge 7, 3) := by decide +kernel
theorem dX3_has_12 : decode cX3_has 12 = .ok (.iconst 1, 1) := by decide +kernel
theorem dX3_has_13 : decode cX3_has 13 = .ok (.goto 4, 3) := by decide +kernel
theorem dX3_has_16 : decode cX3_has 16 = .ok (.iconst 0, 1) := by decide +kernel
theorem dX3_has_17 : decode cX3_has 17 = .ok (.ireturn, 1) := by decide +kernel
theorem dX3_hasRange_0 : decode cX3_hasRange 0 = .ok (.iload_n 1, 1) := by decide +kernel
theorem dX3_hasRange_1 : decode cX3_hasRange 1 = .ok (.ifCond .lt 20, 3) := by decide +kernel
theorem dX3_hasRange_4 : decode cX3_hasRange 4 = .ok (.iload_n 1, 1) := by decide +kernel
theorem dX3_hasRange_5 : decode cX3_hasRange 5 = .ok (.iload_n 2, 1) := by decide +kernel
theorem dX3_hasRange_6 : decode cX3_hasRange 6 = .ok (.if_icmp .gt 15, 3) := by decide +kernel
theorem dX3_hasRange_9 : decode cX3_hasRange 9 = .ok (.iload_n 2, 1) := by decide +kernel
theorem dX3_hasRange_10 : decode cX3_hasRange 10 = .ok (.aload_n 0, 1) := by decide +kernel
theorem dX3_hasRange_11 : decode cX3_hasRange 11 = .ok (.getfield 9, 3) := by decide +kernel
theorem dX3_hasRange_14 : decode cX3_hasRange 14 = .ok (.if_icmp .gt 7, 3) := by decide +kernel
theorem dX3_hasRange_17 : decode cX3_hasRange 17 = .ok (.iconst 1, 1) := by decide +kernel
theorem dX3_hasRange_18 : decode cX3_hasRange 18 = .ok (.goto 4, 3) := by decide +kernel
theorem dX3_hasRange_21 : decode cX3_hasRange 21 = .ok (.iconst 0, 1) := by decide +kernel
theorem dX3_hasRange_22 : decode cX3_hasRange 22 = .ok (.ireturn, 1) := by decide +kernel
theorem dX3_byteOf_0 : decode cX3_byteOf 0 = .ok (.iload_n 2, 1) := by decide +kernel
theorem dX3_byteOf_1 : decode cX3_byteOf 1 = .ok (.ifCond .lt 31, 3) := by decide +kernel
theorem dX3_byteOf_4 : decode cX3_byteOf 4 = .ok (.iload_n 2, 1) := by decide +kernel
theorem dX3_byteOf_5 : decode cX3_byteOf 5 = .ok (.aload_n 0, 1) := by decide +kernel
theorem dX3_byteOf_6 : decode cX3_byteOf 6 = .ok (.getfield 24, 3) := by decide +kernel
theorem dX3_byteOf_9 : decode cX3_byteOf 9 = .ok (.iload_n 1, 1) := by decide +kernel
theorem dX3_byteOf_10 : decode cX3_byteOf 10 = .ok (.invokevirtual 33, 3) := by decide +kernel
theorem dX3_byteOf_13 : decode cX3_byteOf 13 = .ok (.if_icmp .ge 19, 3) := by decide +kernel
theorem dX3_byteOf_16 : decode cX3_byteOf 16 = .ok (.aload_n 0, 1) := by decide +kernel
theorem dX3_byteOf_17 : decode cX3_byteOf 17 = .ok (.getfield 30, 3) := by decide +kernel
theorem dX3_byteOf_20 : decode cX3_byteOf 20 = .ok (.iload_n 1, 1) := by decide +kernel
theorem dX3_byteOf_21 : decode cX3_byteOf 21 = .ok (.bipush 32, 2) := by decide +kernel
theorem dX3_byteOf_23 : decode cX3_byteOf 23 = .ok (.imul, 1) := by decide +kernel
theorem dX3_byteOf_24 : decode cX3_byteOf 24 = .ok (.iload_n 2, 1) := by decide +kernel
theorem dX3_byteOf_25 : decode cX3_byteOf 25 = .ok (.iadd, 1) := by decide +kernel
theorem dX3_byteOf_26 : decode cX3_byteOf 26 = .ok (.invokevirtual 33, 3) := by decide +kernel
theorem dX3_byteOf_29 : decode cX3_byteOf 29 = .ok (.goto 4, 3) := by decide +kernel
theorem dX3_byteOf_32 : decode cX3_byteOf 32 = .ok (.iconst 0, 1) := by decide +kernel
theorem dX3_byteOf_33 : decode cX3_byteOf 33 = .ok (.ireturn, 1) := by decide +kernel
theorem dX3_append_0 : decode cX3_append 0 = .ok (.aload_n 0, 1) := by decide +kernel
theorem dX3_append_1 : decode cX3_append 1 = .ok (.getfield 24, 3) := by decide +kernel
theorem dX3_append_4 : decode cX3_append 4 = .ok (.iload_n 1, 1) := by decide +kernel
theorem dX3_append_5 : decode cX3_append 5 = .ok (.invokevirtual 33, 3) := by decide +kernel
theorem dX3_append_8 : decode cX3_append 8 = .ok (.istore_n 3, 1) := by decide +kernel
theorem dX3_append_9 : decode cX3_append 9 = .ok (.iload_n 3, 1) := by decide +kernel
theorem dX3_append_10 : decode cX3_append 10 = .ok (.ifCond .lt 34, 3) := by decide +kernel
theorem dX3_append_13 : decode cX3_append 13 = .ok (.iload_n 3, 1) := by decide +kernel
theorem dX3_append_14 : decode cX3_append 14 = .ok (.bipush 32, 2) := by decide +kernel
theorem dX3_append_16 : decode cX3_append 16 = .ok (.if_icmp .ge 28, 3) := by decide +kernel
theorem dX3_append_19 : decode cX3_append 19 = .ok (.aload_n 0, 1) := by decide +kernel
theorem dX3_append_20 : decode cX3_append 20 = .ok (.getfield 30, 3) := by decide +kernel
theorem dX3_append_23 : decode cX3_append 23 = .ok (.iload_n 1, 1) := by decide +kernel
theorem dX3_append_24 : decode cX3_append 24 = .ok (.bipush 32, 2) := by decide +kernel
theorem dX3_append_26 : decode cX3_append 26 = .ok (.imul, 1) := by decide +kernel
theorem dX3_append_27 : decode cX3_append 27 = .ok (.iload_n 3, 1) := by decide +kernel
theorem dX3_append_28 : decode cX3_append 28 = .ok (.iadd, 1) := by decide +kernel
theorem dX3_append_29 : decode cX3_append 29 = .ok (.iload_n 2, 1) := by decide +kernel
theorem dX3_append_30 : decode cX3_append 30 = .ok (.invokevirtual 37, 3) := by decide +kernel
theorem dX3_append_33 : decode cX3_append 33 = .ok (.aload_n 0, 1) := by decide +kernel
theorem dX3_append_34 : decode cX3_append 34 = .ok (.getfield 24, 3) := by decide +kernel
theorem dX3_append_37 : decode cX3_append 37 = .ok (.iload_n 1, 1) := by decide +kernel
theorem dX3_append_38 : decode cX3_append 38 = .ok (.iload_n 3, 1) := by decide +kernel
theorem dX3_append_39 : decode cX3_append 39 = .ok (.iconst 1, 1) := by decide +kernel
theorem dX3_append_40 : decode cX3_append 40 = .ok (.iadd, 1) := by decide +kernel
theorem dX3_append_41 : decode cX3_append 41 = .ok (.invokevirtual 37, 3) := by decide +kernel
theorem dX3_append_44 : decode cX3_append 44 = .ok (.return_, 1) := by decide +kernel
theorem dX3_appendFrom_0 : decode cX3_appendFrom 0 = .ok (.aload_n 0, 1) := by decide +kernel
theorem dX3_appendFrom_1 : decode cX3_appendFrom 1 = .ok (.getfield 24, 3) := by decide +kernel
theorem dX3_appendFrom_4 : decode cX3_appendFrom 4 = .ok (.iload_n 1, 1) := by decide +kernel
theorem dX3_appendFrom_5 : decode cX3_appendFrom 5 = .ok (.invokevirtual 33, 3) := by decide +kernel
theorem dX3_appendFrom_8 : decode cX3_appendFrom 8 = .ok (.istore 4, 2) := by decide +kernel
theorem dX3_appendFrom_10 : decode cX3_appendFrom 10 = .ok (.iload_n 2, 1) := by decide +kernel
theorem dX3_appendFrom_11 : decode cX3_appendFrom 11 = .ok (.istore 5, 2) := by decide +kernel
theorem dX3_appendFrom_13 : decode cX3_appendFrom 13 = .ok (.iload 5, 2) := by decide +kernel
theorem dX3_appendFrom_15 : decode cX3_appendFrom 15 = .ok (.iload 4, 2) := by decide +kernel
theorem dX3_appendFrom_17 : decode cX3_appendFrom 17 = .ok (.if_icmp .ge 21, 3) := by decide +kernel
theorem dX3_appendFrom_20 : decode cX3_appendFrom 20 = .ok (.aload_n 0, 1) := by decide +kernel
theorem dX3_appendFrom_21 : decode cX3_appendFrom 21 = .ok (.iload_n 3, 1) := by decide +kernel
theorem dX3_appendFrom_22 : decode cX3_appendFrom 22 = .ok (.aload_n 0, 1) := by decide +kernel
theorem dX3_appendFrom_23 : decode cX3_appendFrom 23 = .ok (.iload_n 1, 1) := by decide +kernel
theorem dX3_appendFrom_24 : decode cX3_appendFrom 24 = .ok (.iload 5, 2) := by decide +kernel
theorem dX3_appendFrom_26 : decode cX3_appendFrom 26 = .ok (.invokevirtual 41, 3) := by decide +kernel
theorem dX3_appendFrom_29 : decode cX3_appendFrom 29 = .ok (.invokevirtual 45, 3) := by decide +kernel
theorem dX3_appendFrom_32 : decode cX3_appendFrom 32 = .ok (.iinc 5 1, 3) := by decide +kernel
theorem dX3_appendFrom_35 : decode cX3_appendFrom 35 = .ok (.goto (-22), 3) := by decide +kernel
theorem dX3_appendFrom_38 : decode cX3_appendFrom 38 = .ok (.return_, 1) := by decide +kernel
theorem dX3_openGap_0 : decode cX3_openGap 0 = .ok (.aload_n 0, 1) := by decide +kernel
theorem dX3_openGap_1 : decode cX3_openGap 1 = .ok (.getfield 9, 3) := by decide +kernel
theorem dX3_openGap_4 : decode cX3_openGap 4 = .ok (.bipush 20, 2) := by decide +kernel
theorem dX3_openGap_6 : decode cX3_openGap 6 = .ok (.if_icmp .ge 64, 3) := by decide +kernel
theorem dX3_openGap_9 : decode cX3_openGap 9 = .ok (.aload_n 0, 1) := by decide +kernel
theorem dX3_openGap_10 : decode cX3_openGap 10 = .ok (.getfield 9, 3) := by decide +kernel
theorem dX3_openGap_13 : decode cX3_openGap 13 = .ok (.istore_n 2, 1) := by decide +kernel
theorem dX3_openGap_14 : decode cX3_openGap 14 = .ok (.iload_n 2, 1) := by decide +kernel
theorem dX3_openGap_15 : decode cX3_openGap 15 = .ok (.iload_n 1, 1) := by decide +kernel
theorem dX3_openGap_16 : decode cX3_openGap 16 = .ok (.if_icmp .le 17, 3) := by decide +kernel
theorem dX3_openGap_19 : decode cX3_openGap 19 = .ok (.aload_n 0, 1) := by decide +kernel
theorem dX3_openGap_20 : decode cX3_openGap 20 = .ok (.iload_n 2, 1) := by decide +kernel
theorem dX3_openGap_21 : decode cX3_openGap 21 = .ok (.iconst 1, 1) := by decide +kernel
theorem dX3_openGap_22 : decode cX3_openGap 22 = .ok (.isub, 1) := by decide +kernel
theorem dX3_openGap_23 : decode cX3_openGap 23 = .ok (.iload_n 2, 1) := by decide +kernel
theorem dX3_openGap_24 : decode cX3_openGap 24 = .ok (.invokevirtual 48, 3) := by decide +kernel
theorem dX3_openGap_27 : decode cX3_openGap 27 = .ok (.iinc 2 (-1), 3) := by decide +kernel
theorem dX3_openGap_30 : decode cX3_openGap 30 = .ok (.goto (-16), 3) := by decide +kernel
theorem dX3_openGap_33 : decode cX3_openGap 33 = .ok (.aload_n 0, 1) := by decide +kernel
theorem dX3_openGap_34 : decode cX3_openGap 34 = .ok (.dup, 1) := by decide +kernel
theorem dX3_openGap_35 : decode cX3_openGap 35 = .ok (.getfield 9, 3) := by decide +kernel
theorem dX3_openGap_38 : decode cX3_openGap 38 = .ok (.iconst 1, 1) := by decide +kernel
theorem dX3_openGap_39 : decode cX3_openGap 39 = .ok (.iadd, 1) := by decide +kernel
theorem dX3_openGap_40 : decode cX3_openGap 40 = .ok (.putfield 9, 3) := by decide +kernel
theorem dX3_openGap_43 : decode cX3_openGap 43 = .ok (.aload_n 0, 1) := by decide +kernel
theorem dX3_openGap_44 : decode cX3_openGap 44 = .ok (.getfield 20, 3) := by decide +kernel
theorem dX3_openGap_47 : decode cX3_openGap 47 = .ok (.iload_n 1, 1) := by decide +kernel
theorem dX3_openGap_48 : decode cX3_openGap 48 = .ok (.iconst 0, 1) := by decide +kernel
theorem dX3_openGap_49 : decode cX3_openGap 49 = .ok (.invokevirtual 37, 3) := by decide +kernel
theorem dX3_openGap_52 : decode cX3_openGap 52 = .ok (.aload_n 0, 1) := by decide +kernel
theorem dX3_openGap_53 : decode cX3_openGap 53 = .ok (.getfield 24, 3) := by decide +kernel
theorem dX3_openGap_56 : decode cX3_openGap 56 = .ok (.iload_n 1, 1) := by decide +kernel
theorem dX3_openGap_57 : decode cX3_openGap 57 = .ok (.iconst 0, 1) := by decide +kernel
theorem dX3_openGap_58 : decode cX3_openGap 58 = .ok (.invokevirtual 37, 3) := by decide +kernel
theorem dX3_openGap_61 : decode cX3_openGap 61 = .ok (.aload_n 0, 1) := by decide +kernel
theorem dX3_openGap_62 : decode cX3_openGap 62 = .ok (.getfield 27, 3) := by decide +kernel
theorem dX3_openGap_65 : decode cX3_openGap 65 = .ok (.iload_n 1, 1) := by decide +kernel
theorem dX3_openGap_66 : decode cX3_openGap 66 = .ok (.iconst 0, 1) := by decide +kernel
theorem dX3_openGap_67 : decode cX3_openGap 67 = .ok (.invokevirtual 37, 3) := by decide +kernel
theorem dX3_openGap_70 : decode cX3_openGap 70 = .ok (.return_, 1) := by decide +kernel
theorem dX3_closeGap_0 : decode cX3_closeGap 0 = .ok (.aload_n 0, 1) := by decide +kernel
theorem dX3_closeGap_1 : decode cX3_closeGap 1 = .ok (.iload_n 1, 1) := by decide +kernel
theorem dX3_closeGap_2 : decode cX3_closeGap 2 = .ok (.invokevirtual 51, 3) := by decide +kernel
theorem dX3_closeGap_5 : decode cX3_closeGap 5 = .ok (.ifCond .eq 39, 3) := by decide +kernel
theorem dX3_closeGap_8 : decode cX3_closeGap 8 = .ok (.iload_n 1, 1) := by decide +kernel
theorem dX3_closeGap_9 : decode cX3_closeGap 9 = .ok (.istore_n 2, 1) := by decide +kernel
theorem dX3_closeGap_10 : decode cX3_closeGap 10 = .ok (.iload_n 2, 1) := by decide +kernel
theorem dX3_closeGap_11 : decode cX3_closeGap 11 = .ok (.aload_n 0, 1) := by decide +kernel
theorem dX3_closeGap_12 : decode cX3_closeGap 12 = .ok (.getfield 9, 3) := by decide +kernel
theorem dX3_closeGap_15 : decode cX3_closeGap 15 = .ok (.iconst 1, 1) := by decide +kernel
theorem dX3_closeGap_16 : decode cX3_closeGap 16 = .ok (.isub, 1) := by decide +kernel
theorem dX3_closeGap_17 : decode cX3_closeGap 17 = .ok (.if_icmp .ge 17, 3) := by decide +kernel
theorem dX3_closeGap_20 : decode cX3_closeGap 20 = .ok (.aload_n 0, 1) := by decide +kernel
theorem dX3_closeGap_21 : decode cX3_closeGap 21 = .ok (.iload_n 2, 1) := by decide +kernel
theorem dX3_closeGap_22 : decode cX3_closeGap 22 = .ok (.iconst 1, 1) := by decide +kernel
theorem dX3_closeGap_23 : decode cX3_closeGap 23 = .ok (.iadd, 1) := by decide +kernel
theorem dX3_closeGap_24 : decode cX3_closeGap 24 = .ok (.iload_n 2, 1) := by decide +kernel
theorem dX3_closeGap_25 : decode cX3_closeGap 25 = .ok (.invokevirtual 48, 3) := by decide +kernel
theorem dX3_closeGap_28 : decode cX3_closeGap 28 = .ok (.iinc 2 1, 3) := by decide +kernel
theorem dX3_closeGap_31 : decode cX3_closeGap 31 = .ok (.goto (-21), 3) := by decide +kernel
theorem dX3_closeGap_34 : decode cX3_closeGap 34 = .ok (.aload_n 0, 1) := by decide +kernel
theorem dX3_closeGap_35 : decode cX3_closeGap 35 = .ok (.dup, 1) := by decide +kernel
theorem dX3_closeGap_36 : decode cX3_closeGap 36 = .ok (.getfield 9, 3) := by decide +kernel
theorem dX3_closeGap_39 : decode cX3_closeGap 39 = .ok (.iconst 1, 1) := by decide +kernel
theorem dX3_closeGap_40 : decode cX3_closeGap 40 = .ok (.isub, 1) := by decide +kernel
theorem dX3_closeGap_41 : decode cX3_closeGap 41 = .ok (.putfield 9, 3) := by decide +kernel
theorem dX3_closeGap_44 : decode cX3_closeGap 44 = .ok (.return_, 1) := by decide +kernel
theorem dX3_copyLine_0 : decode cX3_copyLine 0 = .ok (.aload_n 0, 1) := by decide +kernel
theorem dX3_copyLine_1 : decode cX3_copyLine 1 = .ok (.getfield 20, 3) := by decide +kernel
theorem dX3_copyLine_4 : decode cX3_copyLine 4 = .ok (.iload_n 2, 1) := by decide +kernel
theorem dX3_copyLine_5 : decode cX3_copyLine 5 = .ok (.aload_n 0, 1) := by decide +kernel
theorem dX3_copyLine_6 : decode cX3_copyLine 6 = .ok (.getfield 20, 3) := by decide +kernel
theorem dX3_copyLine_9 : decode cX3_copyLine 9 = .ok (.iload_n 1, 1) := by decide +kernel
theorem dX3_copyLine_10 : decode cX3_copyLine 10 = .ok (.invokevirtual 33, 3) := by decide +kernel
theorem dX3_copyLine_13 : decode cX3_copyLine 13 = .ok (.invokevirtual 37, 3) := by decide +kernel
theorem dX3_copyLine_16 : decode cX3_copyLine 16 = .ok (.aload_n 0, 1) := by decide +kernel
theorem dX3_copyLine_17 : decode cX3_copyLine 17 = .ok (.getfield 27, 3) := by decide +kernel
theorem dX3_copyLine_20 : decode cX3_copyLine 20 = .ok (.iload_n 2, 1) := by decide +kernel
theorem dX3_copyLine_21 : decode cX3_copyLine 21 = .ok (.aload_n 0, 1) := by decide +kernel
theorem dX3_copyLine_22 : decode cX3_copyLine 22 = .ok (.getfield 27, 3) := by decide +kernel
theorem dX3_copyLine_25 : decode cX3_copyLine 25 = .ok (.iload_n 1, 1) := by decide +kernel
theorem dX3_copyLine_26 : decode cX3_copyLine 26 = .ok (.invokevirtual 33, 3) := by decide +kernel
theorem dX3_copyLine_29 : decode cX3_copyLine 29 = .ok (.invokevirtual 37, 3) := by decide +kernel
theorem dX3_copyLine_32 : decode cX3_copyLine 32 = .ok (.aload_n 0, 1) := by decide +kernel
theorem dX3_copyLine_33 : decode cX3_copyLine 33 = .ok (.getfield 24, 3) := by decide +kernel
theorem dX3_copyLine_36 : decode cX3_copyLine 36 = .ok (.iload_n 1, 1) := by decide +kernel
theorem dX3_copyLine_37 : decode cX3_copyLine 37 = .ok (.invokevirtual 33, 3) := by decide +kernel
theorem dX3_copyLine_40 : decode cX3_copyLine 40 = .ok (.istore_n 3, 1) := by decide +kernel
theorem dX3_copyLine_41 : decode cX3_copyLine 41 = .ok (.aload_n 0, 1) := by decide +kernel
theorem dX3_copyLine_42 : decode cX3_copyLine 42 = .ok (.getfield 24, 3) := by decide +kernel
theorem dX3_copyLine_45 : decode cX3_copyLine 45 = .ok (.iload_n 2, 1) := by decide +kernel
theorem dX3_copyLine_46 : decode cX3_copyLine 46 = .ok (.iload_n 3, 1) := by decide +kernel
theorem dX3_copyLine_47 : decode cX3_copyLine 47 = .ok (.invokevirtual 37, 3) := by decide +kernel
theorem dX3_copyLine_50 : decode cX3_copyLine 50 = .ok (.iconst 0, 1) := by decide +kernel
theorem dX3_copyLine_51 : decode cX3_copyLine 51 = .ok (.istore 4, 2) := by decide +kernel
theorem dX3_copyLine_53 : decode cX3_copyLine 53 = .ok (.iload 4, 2) := by decide +kernel
theorem dX3_copyLine_55 : decode cX3_copyLine 55 = .ok (.iload_n 3, 1) := by decide +kernel
theorem dX3_copyLine_56 : decode cX3_copyLine 56 = .ok (.if_icmp .ge 37, 3) := by decide +kernel
theorem dX3_copyLine_59 : decode cX3_copyLine 59 = .ok (.aload_n 0, 1) := by decide +kernel
theorem dX3_copyLine_60 : decode cX3_copyLine 60 = .ok (.getfield 30, 3) := by decide +kernel
theorem dX3_copyLine_63 : decode cX3_copyLine 63 = .ok (.iload_n 2, 1) := by decide +kernel
theorem dX3_copyLine_64 : decode cX3_copyLine 64 = .ok (.bipush 32, 2) := by decide +kernel
theorem dX3_copyLine_66 : decode cX3_copyLine 66 = .ok (.imul, 1) := by decide +kernel
theorem dX3_copyLine_67 : decode cX3_copyLine 67 = .ok (.iload 4, 2) := by decide +kernel
theorem dX3_copyLine_69 : decode cX3_copyLine 69 = .ok (.iadd, 1) := by decide +kernel
theorem dX3_copyLine_70 : decode cX3_copyLine 70 = .ok (.aload_n 0, 1) := by decide +kernel
theorem dX3_copyLine_71 : decode cX3_copyLine 71 = .ok (.getfield 30, 3) := by decide +kernel
theorem dX3_copyLine_74 : decode cX3_copyLine 74 = .ok (.iload_n 1, 1) := by decide +kernel
theorem dX3_copyLine_75 : decode cX3_copyLine 75 = .ok (.bipush 32, 2) := by decide +kernel
theorem dX3_copyLine_77 : decode cX3_copyLine 77 = .ok (.imul, 1) := by decide +kernel
theorem dX3_copyLine_78 : decode cX3_copyLine 78 = .ok (.iload 4, 2) := by decide +kernel
theorem dX3_copyLine_80 : decode cX3_copyLine 80 = .ok (.iadd, 1) := by decide +kernel
theorem dX3_copyLine_81 : decode cX3_copyLine 81 = .ok (.invokevirtual 33, 3) := by decide +kernel
theorem dX3_copyLine_84 : decode cX3_copyLine 84 = .ok (.invokevirtual 37, 3) := by decide +kernel
theorem dX3_copyLine_87 : decode cX3_copyLine 87 = .ok (.iinc 4 1, 3) := by decide +kernel
theorem dX3_copyLine_90 : decode cX3_copyLine 90 = .ok (.goto (-37), 3) := by decide +kernel
theorem dX3_copyLine_93 : decode cX3_copyLine 93 = .ok (.return_, 1) := by decide +kernel
theorem dX3_split_0 : decode cX3_split 0 = .ok (.aload_n 0, 1) := by decide +kernel
theorem dX3_split_1 : decode cX3_split 1 = .ok (.iload_n 1, 1) := by decide +kernel
theorem dX3_split_2 : decode cX3_split 2 = .ok (.iconst 1, 1) := by decide +kernel
theorem dX3_split_3 : decode cX3_split 3 = .ok (.iadd, 1) := by decide +kernel
theorem dX3_split_4 : decode cX3_split 4 = .ok (.invokevirtual 55, 3) := by decide +kernel
theorem dX3_split_7 : decode cX3_split 7 = .ok (.iload_n 2, 1) := by decide +kernel
theorem dX3_split_8 : decode cX3_split 8 = .ok (.istore_n 3, 1) := by decide +kernel
theorem dX3_split_9 : decode cX3_split 9 = .ok (.iload_n 3, 1) := by decide +kernel
theorem dX3_split_10 : decode cX3_split 10 = .ok (.bipush 32, 2) := by decide +kernel
theorem dX3_split_12 : decode cX3_split 12 = .ok (.if_icmp .ge 20, 3) := by decide +kernel
theorem dX3_split_15 : decode cX3_split 15 = .ok (.aload_n 0, 1) := by decide +kernel
theorem dX3_split_16 : decode cX3_split 16 = .ok (.iload_n 1, 1) := by decide +kernel
theorem dX3_split_17 : decode cX3_split 17 = .ok (.iload_n 3, 1) := by decide +kernel
theorem dX3_split_18 : decode cX3_split 18 = .ok (.invokevirtual 41, 3) := by decide +kernel
theorem dX3_split_21 : decode cX3_split 21 = .ok (.bipush 32, 2) := by decide +kernel
theorem dX3_split_23 : decode cX3_split 23 = .ok (.if_icmp .ne 9, 3) := by decide +kernel
theorem dX3_split_26 : decode cX3_split 26 = .ok (.iinc 3 1, 3) := by decide +kernel
theorem dX3_split_29 : decode cX3_split 29 = .ok (.goto (-20), 3) := by decide +kernel
theorem dX3_split_32 : decode cX3_split 32 = .ok (.aload_n 0, 1) := by decide +kernel
theorem dX3_split_33 : decode cX3_split 33 = .ok (.iload_n 1, 1) := by decide +kernel
theorem dX3_split_34 : decode cX3_split 34 = .ok (.iload_n 3, 1) := by decide +kernel
theorem dX3_split_35 : decode cX3_split 35 = .ok (.iload_n 1, 1) := by decide +kernel
theorem dX3_split_36 : decode cX3_split 36 = .ok (.iconst 1, 1) := by decide +kernel
theorem dX3_split_37 : decode cX3_split 37 = .ok (.iadd, 1) := by decide +kernel
theorem dX3_split_38 : decode cX3_split 38 = .ok (.invokevirtual 58, 3) := by decide +kernel
theorem dX3_split_41 : decode cX3_split 41 = .ok (.iload_n 2, 1) := by decide +kernel
theorem dX3_split_42 : decode cX3_split 42 = .ok (.istore 4, 2) := by decide +kernel
theorem dX3_split_44 : decode cX3_split 44 = .ok (.iload 4, 2) := by decide +kernel
theorem dX3_split_46 : decode cX3_split 46 = .ok (.ifCond .le 23, 3) := by decide +kernel
theorem dX3_split_49 : decode cX3_split 49 = .ok (.aload_n 0, 1) := by decide +kernel
theorem dX3_split_50 : decode cX3_split 50 = .ok (.iload_n 1, 1) := by decide +kernel
theorem dX3_split_51 : decode cX3_split 51 = .ok (.iload 4, 2) := by decide +kernel
theorem dX3_split_53 : decode cX3_split 53 = .ok (.iconst 1, 1) := by decide +kernel
theorem dX3_split_54 : decode cX3_split 54 = .ok (.isub, 1) := by decide +kernel
theorem dX3_split_55 : decode cX3_split 55 = .ok (.invokevirtual 41, 3) := by decide +kernel
theorem dX3_split_58 : decode cX3_split 58 = .ok (.bipush 32, 2) := by decide +kernel
theorem dX3_split_60 : decode cX3_split 60 = .ok (.if_icmp .ne 9, 3) := by decide +kernel
theorem dX3_split_63 : decode cX3_split 63 = .ok (.iinc 4 (-1), 3) := by decide +kernel
theorem dX3_split_66 : decode cX3_split 66 = .ok (.goto (-22), 3) := by decide +kernel
theorem dX3_split_69 : decode cX3_split 69 = .ok (.aload_n 0, 1) := by decide +kernel
theorem dX3_split_70 : decode cX3_split 70 = .ok (.getfield 24, 3) := by decide +kernel
theorem dX3_split_73 : decode cX3_split 73 = .ok (.iload_n 1, 1) := by decide +kernel
theorem dX3_split_74 : decode cX3_split 74 = .ok (.iload 4, 2) := by decide +kernel
theorem dX3_split_76 : decode cX3_split 76 = .ok (.invokevirtual 37, 3) := by decide +kernel
theorem dX3_split_79 : decode cX3_split 79 = .ok (.return_, 1) := by decide +kernel
theorem dX3_joinedSize_0 : decode cX3_joinedSize 0 = .ok (.aload_n 0, 1) := by decide +kernel
theorem dX3_joinedSize_1 : decode cX3_joinedSize 1 = .ok (.getfield 24, 3) := by decide +kernel
theorem dX3_joinedSize_4 : decode cX3_joinedSize 4 = .ok (.iload_n 1, 1) := by decide +kernel
theorem dX3_joinedSize_5 : decode cX3_joinedSize 5 = .ok (.invokevirtual 33, 3) := by decide +kernel
theorem dX3_joinedSize_8 : decode cX3_joinedSize 8 = .ok (.istore_n 2, 1) := by decide +kernel
theorem dX3_joinedSize_9 : decode cX3_joinedSize 9 = .ok (.aload_n 0, 1) := by decide +kernel
theorem dX3_joinedSize_10 : decode cX3_joinedSize 10 = .ok (.getfield 24, 3) := by decide +kernel
theorem dX3_joinedSize_13 : decode cX3_joinedSize 13 = .ok (.iload_n 1, 1) := by decide +kernel
theorem dX3_joinedSize_14 : decode cX3_joinedSize 14 = .ok (.iconst 1, 1) := by decide +kernel
theorem dX3_joinedSize_15 : decode cX3_joinedSize 15 = .ok (.iadd, 1) := by decide +kernel
theorem dX3_joinedSize_16 : decode cX3_joinedSize 16 = .ok (.invokevirtual 33, 3) := by decide +kernel
theorem dX3_joinedSize_19 : decode cX3_joinedSize 19 = .ok (.istore_n 3, 1) := by decide +kernel
theorem dX3_joinedSize_20 : decode cX3_joinedSize 20 = .ok (.iload_n 2, 1) := by decide +kernel
theorem dX3_joinedSize_21 : decode cX3_joinedSize 21 = .ok (.iload_n 3, 1) := by decide +kernel
theorem dX3_joinedSize_22 : decode cX3_joinedSize 22 = .ok (.iadd, 1) := by decide +kernel
theorem dX3_joinedSize_23 : decode cX3_joinedSize 23 = .ok (.iload_n 2, 1) := by decide +kernel
theorem dX3_joinedSize_24 : decode cX3_joinedSize 24 = .ok (.ifCond .le 11, 3) := by decide +kernel
theorem dX3_joinedSize_27 : decode cX3_joinedSize 27 = .ok (.iload_n 3, 1) := by decide +kernel
theorem dX3_joinedSize_28 : decode cX3_joinedSize 28 = .ok (.ifCond .le 7, 3) := by decide +kernel
theorem dX3_joinedSize_31 : decode cX3_joinedSize 31 = .ok (.iconst 1, 1) := by decide +kernel
theorem dX3_joinedSize_32 : decode cX3_joinedSize 32 = .ok (.goto 4, 3) := by decide +kernel
theorem dX3_joinedSize_35 : decode cX3_joinedSize 35 = .ok (.iconst 0, 1) := by decide +kernel
theorem dX3_joinedSize_36 : decode cX3_joinedSize 36 = .ok (.iadd, 1) := by decide +kernel
theorem dX3_joinedSize_37 : decode cX3_joinedSize 37 = .ok (.ireturn, 1) := by decide +kernel
theorem dX3_join_0 : decode cX3_join 0 = .ok (.aload_n 0, 1) := by decide +kernel
theorem dX3_join_1 : decode cX3_join 1 = .ok (.getfield 24, 3) := by decide +kernel
theorem dX3_join_4 : decode cX3_join 4 = .ok (.iload_n 1, 1) := by decide +kernel
theorem dX3_join_5 : decode cX3_join 5 = .ok (.invokevirtual 33, 3) := by decide +kernel
theorem dX3_join_8 : decode cX3_join 8 = .ok (.ifCond .ne 24, 3) := by decide +kernel
theorem dX3_join_11 : decode cX3_join 11 = .ok (.aload_n 0, 1) := by decide +kernel
theorem dX3_join_12 : decode cX3_join 12 = .ok (.getfield 20, 3) := by decide +kernel
theorem dX3_join_15 : decode cX3_join 15 = .ok (.iload_n 1, 1) := by decide +kernel
theorem dX3_join_16 : decode cX3_join 16 = .ok (.aload_n 0, 1) := by decide +kernel
theorem dX3_join_17 : decode cX3_join 17 = .ok (.getfield 20, 3) := by decide +kernel
theorem dX3_join_20 : decode cX3_join 20 = .ok (.iload_n 1, 1) := by decide +kernel
theorem dX3_join_21 : decode cX3_join 21 = .ok (.iconst 1, 1) := by decide +kernel
theorem dX3_join_22 : decode cX3_join 22 = .ok (.iadd, 1) := by decide +kernel
theorem dX3_join_23 : decode cX3_join 23 = .ok (.invokevirtual 33, 3) := by decide +kernel
theorem dX3_join_26 : decode cX3_join 26 = .ok (.invokevirtual 37, 3) := by decide +kernel
theorem dX3_join_29 : decode cX3_join 29 = .ok (.goto 23, 3) := by decide +kernel
theorem dX3_join_32 : decode cX3_join 32 = .ok (.aload_n 0, 1) := by decide +kernel
theorem dX3_join_33 : decode cX3_join 33 = .ok (.getfield 24, 3) := by decide +kernel
theorem dX3_join_36 : decode cX3_join 36 = .ok (.iload_n 1, 1) := by decide +kernel
theorem dX3_join_37 : decode cX3_join 37 = .ok (.iconst 1, 1) := by decide +kernel
theorem dX3_join_38 : decode cX3_join 38 = .ok (.iadd, 1) := by decide +kernel
theorem dX3_join_39 : decode cX3_join 39 = .ok (.invokevirtual 33, 3) := by decide +kernel
theorem dX3_join_42 : decode cX3_join 42 = .ok (.ifCond .le 10, 3) := by decide +kernel
theorem dX3_join_45 : decode cX3_join 45 = .ok (.aload_n 0, 1) := by decide +kernel
theorem dX3_join_46 : decode cX3_join 46 = .ok (.iload_n 1, 1) := by decide +kernel
theorem dX3_join_47 : decode cX3_join 47 = .ok (.bipush 32, 2) := by decide +kernel
theorem dX3_join_49 : decode cX3_join 49 = .ok (.invokevirtual 45, 3) := by decide +kernel
theorem dX3_join_52 : decode cX3_join 52 = .ok (.aload_n 0, 1) := by decide +kernel
theorem dX3_join_53 : decode cX3_join 53 = .ok (.iload_n 1, 1) := by decide +kernel
theorem dX3_join_54 : decode cX3_join 54 = .ok (.iconst 1, 1) := by decide +kernel
theorem dX3_join_55 : decode cX3_join 55 = .ok (.iadd, 1) := by decide +kernel
theorem dX3_join_56 : decode cX3_join 56 = .ok (.iconst 0, 1) := by decide +kernel
theorem dX3_join_57 : decode cX3_join 57 = .ok (.iload_n 1, 1) := by decide +kernel
theorem dX3_join_58 : decode cX3_join 58 = .ok (.invokevirtual 58, 3) := by decide +kernel
theorem dX3_join_61 : decode cX3_join 61 = .ok (.aload_n 0, 1) := by decide +kernel
theorem dX3_join_62 : decode cX3_join 62 = .ok (.iload_n 1, 1) := by decide +kernel
theorem dX3_join_63 : decode cX3_join 63 = .ok (.iconst 1, 1) := by decide +kernel
theorem dX3_join_64 : decode cX3_join 64 = .ok (.iadd, 1) := by decide +kernel
theorem dX3_join_65 : decode cX3_join 65 = .ok (.invokevirtual 62, 3) := by decide +kernel
theorem dX3_join_68 : decode cX3_join 68 = .ok (.return_, 1) := by decide +kernel
theorem dX3_canMove_0 : decode cX3_canMove 0 = .ok (.iload_n 1, 1) := by decide +kernel
theorem dX3_canMove_1 : decode cX3_canMove 1 = .ok (.istore 4, 2) := by decide +kernel
theorem dX3_canMove_3 : decode cX3_canMove 3 = .ok (.iload 4, 2) := by decide +kernel
theorem dX3_canMove_5 : decode cX3_canMove 5 = .ok (.iload_n 2, 1) := by decide +kernel
theorem dX3_canMove_6 : decode cX3_canMove 6 = .ok (.if_icmp .ge 43, 3) := by decide +kernel
theorem dX3_canMove_9 : decode cX3_canMove 9 = .ok (.aload_n 0, 1) := by decide +kernel
theorem dX3_canMove_10 : decode cX3_canMove 10 = .ok (.getfield 24, 3) := by decide +kernel
theorem dX3_canMove_13 : decode cX3_canMove 13 = .ok (.iload 4, 2) := by decide +kernel
theorem dX3_canMove_15 : decode cX3_canMove 15 = .ok (.invokevirtual 33, 3) := by decide +kernel
theorem dX3_canMove_18 : decode cX3_canMove 18 = .ok (.ifCond .le 25, 3) := by decide +kernel
theorem dX3_canMove_21 : decode cX3_canMove 21 = .ok (.aload_n 0, 1) := by decide +kernel
theorem dX3_canMove_22 : decode cX3_canMove 22 = .ok (.getfield 20, 3) := by decide +kernel
theorem dX3_canMove_25 : decode cX3_canMove 25 = .ok (.iload 4, 2) := by decide +kernel
theorem dX3_canMove_27 : decode cX3_canMove 27 = .ok (.invokevirtual 33, 3) := by decide +kernel
theorem dX3_canMove_30 : decode cX3_canMove 30 = .ok (.iload_n 3, 1) := by decide +kernel
theorem dX3_canMove_31 : decode cX3_canMove 31 = .ok (.iadd, 1) := by decide +kernel
theorem dX3_canMove_32 : decode cX3_canMove 32 = .ok (.iconst 0, 1) := by decide +kernel
theorem dX3_canMove_33 : decode cX3_canMove 33 = .ok (.bipush 40, 2) := by decide +kernel
theorem dX3_canMove_35 : decode cX3_canMove 35 = .ok (.invokestatic 65, 3) := by decide +kernel
theorem dX3_canMove_38 : decode cX3_canMove 38 = .ok (.ifCond .ne 5, 3) := by decide +kernel
theorem dX3_canMove_41 : decode cX3_canMove 41 = .ok (.iconst 0, 1) := by decide +kernel
theorem dX3_canMove_42 : decode cX3_canMove 42 = .ok (.ireturn, 1) := by decide +kernel
theorem dX3_canMove_43 : decode cX3_canMove 43 = .ok (.iinc 4 1, 3) := by decide +kernel
theorem dX3_canMove_46 : decode cX3_canMove 46 = .ok (.goto (-43), 3) := by decide +kernel
theorem dX3_canMove_49 : decode cX3_canMove 49 = .ok (.iconst 1, 1) := by decide +kernel
theorem dX3_canMove_50 : decode cX3_canMove 50 = .ok (.ireturn, 1) := by decide +kernel
theorem dX3_move_0 : decode cX3_move 0 = .ok (.iconst 0, 1) := by decide +kernel
theorem dX3_move_1 : decode cX3_move 1 = .ok (.istore 4, 2) := by decide +kernel
theorem dX3_move_3 : decode cX3_move 3 = .ok (.iload_n 1, 1) := by decide +kernel
theorem dX3_move_4 : decode cX3_move 4 = .ok (.istore 5, 2) := by decide +kernel
theorem dX3_move_6 : decode cX3_move 6 = .ok (.iload 5, 2) := by decide +kernel
theorem dX3_move_8 : decode cX3_move 8 = .ok (.iload_n 2, 1) := by decide +kernel
theorem dX3_move_9 : decode cX3_move 9 = .ok (.if_icmp .ge 44, 3) := by decide +kernel
theorem dX3_move_12 : decode cX3_move 12 = .ok (.aload_n 0, 1) := by decide +kernel
theorem dX3_move_13 : decode cX3_move 13 = .ok (.getfield 24, 3) := by decide +kernel
theorem dX3_move_16 : decode cX3_move 16 = .ok (.iload 5, 2) := by decide +kernel
theorem dX3_move_18 : decode cX3_move 18 = .ok (.invokevirtual 33, 3) := by decide +kernel
theorem dX3_move_21 : decode cX3_move 21 = .ok (.ifCond .le 26, 3) := by decide +kernel
theorem dX3_move_24 : decode cX3_move 24 = .ok (.aload_n 0, 1) := by decide +kernel
theorem dX3_move_25 : decode cX3_move 25 = .ok (.getfield 20, 3) := by decide +kernel
theorem dX3_move_28 : decode cX3_move 28 = .ok (.iload 5, 2) := by decide +kernel
theorem dX3_move_30 : decode cX3_move 30 = .ok (.aload_n 0, 1) := by decide +kernel
theorem dX3_move_31 : decode cX3_move 31 = .ok (.getfield 20, 3) := by decide +kernel
theorem dX3_move_34 : decode cX3_move 34 = .ok (.iload 5, 2) := by decide +kernel
theorem dX3_move_36 : decode cX3_move 36 = .ok (.invokevirtual 33, 3) := by decide +kernel
theorem dX3_move_39 : decode cX3_move 39 = .ok (.iload_n 3, 1) := by decide +kernel
theorem dX3_move_40 : decode cX3_move 40 = .ok (.iadd, 1) := by decide +kernel
theorem dX3_move_41 : decode cX3_move 41 = .ok (.invokevirtual 37, 3) := by decide +kernel
theorem dX3_move_44 : decode cX3_move 44 = .ok (.iinc 4 1, 3) := by decide +kernel
theorem dX3_move_47 : decode cX3_move 47 = .ok (.iinc 5 1, 3) := by decide +kernel
theorem dX3_move_50 : decode cX3_move 50 = .ok (.goto (-44), 3) := by decide +kernel
theorem dX3_move_53 : decode cX3_move 53 = .ok (.iload 4, 2) := by decide +kernel
theorem dX3_move_55 : decode cX3_move 55 = .ok (.ireturn, 1) := by decide +kernel
theorem dX3_copy_0 : decode cX3_copy 0 = .ok (.aload_n 0, 1) := by decide +kernel
theorem dX3_copy_1 : decode cX3_copy 1 = .ok (.aload_n 1, 1) := by decide +kernel
theorem dX3_copy_2 : decode cX3_copy 2 = .ok (.getfield 9, 3) := by decide +kernel
theorem dX3_copy_5 : decode cX3_copy 5 = .ok (.putfield 9, 3) := by decide +kernel
theorem dX3_copy_8 : decode cX3_copy 8 = .ok (.aload_n 0, 1) := by decide +kernel
theorem dX3_copy_9 : decode cX3_copy 9 = .ok (.getfield 20, 3) := by decide +kernel
theorem dX3_copy_12 : decode cX3_copy 12 = .ok (.aload_n 1, 1) := by decide +kernel
theorem dX3_copy_13 : decode cX3_copy 13 = .ok (.getfield 20, 3) := by decide +kernel
theorem dX3_copy_16 : decode cX3_copy 16 = .ok (.invokevirtual 69, 3) := by decide +kernel
theorem dX3_copy_19 : decode cX3_copy 19 = .ok (.aload_n 0, 1) := by decide +kernel
theorem dX3_copy_20 : decode cX3_copy 20 = .ok (.getfield 24, 3) := by decide +kernel
theorem dX3_copy_23 : decode cX3_copy 23 = .ok (.aload_n 1, 1) := by decide +kernel
theorem dX3_copy_24 : decode cX3_copy 24 = .ok (.getfield 24, 3) := by decide +kernel
theorem dX3_copy_27 : decode cX3_copy 27 = .ok (.invokevirtual 69, 3) := by decide +kernel
theorem dX3_copy_30 : decode cX3_copy 30 = .ok (.aload_n 0, 1) := by decide +kernel
theorem dX3_copy_31 : decode cX3_copy 31 = .ok (.getfield 27, 3) := by decide +kernel
theorem dX3_copy_34 : decode cX3_copy 34 = .ok (.aload_n 1, 1) := by decide +kernel
theorem dX3_copy_35 : decode cX3_copy 35 = .ok (.getfield 27, 3) := by decide +kernel
theorem dX3_copy_38 : decode cX3_copy 38 = .ok (.invokevirtual 69, 3) := by decide +kernel
theorem dX3_copy_41 : decode cX3_copy 41 = .ok (.aload_n 0, 1) := by decide +kernel
theorem dX3_copy_42 : decode cX3_copy 42 = .ok (.getfield 30, 3) := by decide +kernel
theorem dX3_copy_45 : decode cX3_copy 45 = .ok (.aload_n 1, 1) := by decide +kernel
theorem dX3_copy_46 : decode cX3_copy 46 = .ok (.getfield 30, 3) := by decide +kernel
theorem dX3_copy_49 : decode cX3_copy 49 = .ok (.invokevirtual 69, 3) := by decide +kernel
theorem dX3_copy_52 : decode cX3_copy 52 = .ok (.return_, 1) := by decide +kernel
theorem dX4_init_0 : decode cX4_init 0 = .ok (.aload_n 0, 1) := by decide +kernel
theorem dX4_init_1 : decode cX4_init 1 = .ok (.invokespecial 3, 3) := by decide +kernel
theorem dX4_init_4 : decode cX4_init 4 = .ok (.aload_n 0, 1) := by decide +kernel
theorem dX4_init_5 : decode cX4_init 5 = .ok (.new 9, 3) := by decide +kernel
theorem dX4_init_8 : decode cX4_init 8 = .ok (.dup, 1) := by decide +kernel
theorem dX4_init_9 : decode cX4_init 9 = .ok (.bipush 20, 2) := by decide +kernel
theorem dX4_init_11 : decode cX4_init 11 = .ok (.invokespecial 11, 3) := by decide +kernel
theorem dX4_init_14 : decode cX4_init 14 = .ok (.putfield 14, 3) := by decide +kernel
theorem dX4_init_17 : decode cX4_init 17 = .ok (.aload_n 0, 1) := by decide +kernel
theorem dX4_init_18 : decode cX4_init 18 = .ok (.new 9, 3) := by decide +kernel
theorem dX4_init_21 : decode cX4_init 21 = .ok (.dup, 1) := by decide +kernel
theorem dX4_init_22 : decode cX4_init 22 = .ok (.bipush 20, 2) := by decide +kernel
theorem dX4_init_24 : decode cX4_init 24 = .ok (.invokespecial 11, 3) := by decide +kernel
theorem dX4_init_27 : decode cX4_init 27 = .ok (.putfield 20, 3) := by decide +kernel
theorem dX4_init_30 : decode cX4_init 30 = .ok (.aload_n 0, 1) := by decide +kernel
theorem dX4_init_31 : decode cX4_init 31 = .ok (.new 9, 3) := by decide +kernel
theorem dX4_init_34 : decode cX4_init 34 = .ok (.dup, 1) := by decide +kernel
theorem dX4_init_35 : decode cX4_init 35 = .ok (.bipush 20, 2) := by decide +kernel
theorem dX4_init_37 : decode cX4_init 37 = .ok (.invokespecial 11, 3) := by decide +kernel
theorem dX4_init_40 : decode cX4_init 40 = .ok (.putfield 23, 3) := by decide +kernel
theorem dX4_init_43 : decode cX4_init 43 = .ok (.aload_n 0, 1) := by decide +kernel
theorem dX4_init_44 : decode cX4_init 44 = .ok (.new 9, 3) := by decide +kernel
theorem dX4_init_47 : decode cX4_init 47 = .ok (.dup, 1) := by decide +kernel
theorem dX4_init_48 : decode cX4_init 48 = .ok (.bipush 20, 2) := by decide +kernel
theorem dX4_init_50 : decode cX4_init 50 = .ok (.invokespecial 11, 3) := by decide +kernel
theorem dX4_init_53 : decode cX4_init 53 = .ok (.putfield 26, 3) := by decide +kernel
theorem dX4_init_56 : decode cX4_init 56 = .ok (.aload_n 0, 1) := by decide +kernel
theorem dX4_init_57 : decode cX4_init 57 = .ok (.new 9, 3) := by decide +kernel
theorem dX4_init_60 : decode cX4_init 60 = .ok (.dup, 1) := by decide +kernel
theorem dX4_init_61 : decode cX4_init 61 = .ok (.bipush 20, 2) := by decide +kernel
theorem dX4_init_63 : decode cX4_init 63 = .ok (.invokespecial 11, 3) := by decide +kernel
theorem dX4_init_66 : decode cX4_init 66 = .ok (.putfield 29, 3) := by decide +kernel
theorem dX4_init_69 : decode cX4_init 69 = .ok (.aload_n 0, 1) := by decide +kernel
theorem dX4_init_70 : decode cX4_init 70 = .ok (.new 9, 3) := by decide +kernel
theorem dX4_init_73 : decode cX4_init 73 = .ok (.dup, 1) := by decide +kernel
theorem dX4_init_74 : decode cX4_init 74 = .ok (.bipush 20, 2) := by decide +kernel
theorem dX4_init_76 : decode cX4_init 76 = .ok (.invokespecial 11, 3) := by decide +kernel
theorem dX4_init_79 : decode cX4_init 79 = .ok (.putfield 32, 3) := by decide +kernel
theorem dX4_init_82 : decode cX4_init 82 = .ok (.return_, 1) := by decide +kernel
theorem dX4_make_0 : decode cX4_make 0 = .ok (.iconst 0, 1) := by decide +kernel
theorem dX4_make_1 : decode cX4_make 1 = .ok (.istore 4, 2) := by decide +kernel
theorem dX4_make_3 : decode cX4_make 3 = .ok (.iload 4, 2) := by decide +kernel
theorem dX4_make_5 : decode cX4_make 5 = .ok (.aload_n 1, 1) := by decide +kernel
theorem dX4_make_6 : decode cX4_make 6 = .ok (.getfield 35, 3) := by decide +kernel
theorem dX4_make_9 : decode cX4_make 9 = .ok (.getfield 41, 3) := by decide +kernel
theorem dX4_make_12 : decode cX4_make 12 = .ok (.if_icmp .ge 72, 3) := by decide +kernel
theorem dX4_make_15 : decode cX4_make 15 = .ok (.aload_n 1, 1) := by decide +kernel
theorem dX4_make_16 : decode cX4_make 16 = .ok (.getfield 35, 3) := by decide +kernel
theorem dX4_make_19 : decode cX4_make 19 = .ok (.getfield 47, 3) := by decide +kernel
theorem dX4_make_22 : decode cX4_make 22 = .ok (.iload 4, 2) := by decide +kernel
theorem dX4_make_24 : decode cX4_make 24 = .ok (.invokevirtual 50, 3) := by decide +kernel
theorem dX4_make_27 : decode cX4_make 27 = .ok (.ifCond .eq 15, 3) := by decide +kernel
theorem dX4_make_30 : decode cX4_make 30 = .ok (.aload_n 2, 1) := by decide +kernel
theorem dX4_make_31 : decode cX4_make 31 = .ok (.getfield 54, 3) := by decide +kernel
theorem dX4_make_34 : decode cX4_make 34 = .ok (.iload 4, 2) := by decide +kernel
theorem dX4_make_36 : decode cX4_make 36 = .ok (.invokevirtual 50, 3) := by decide +kernel
theorem dX4_make_39 : decode cX4_make 39 = .ok (.ifCond .eq 27, 3) := by decide +kernel
theorem dX4_make_42 : decode cX4_make 42 = .ok (.aload_n 0, 1) := by decide +kernel
theorem dX4_make_43 : decode cX4_make 43 = .ok (.getfield 14, 3) := by decide +kernel
theorem dX4_make_46 : decode cX4_make 46 = .ok (.iload 4, 2) := by decide +kernel
theorem dX4_make_48 : decode cX4_make 48 = .ok (.bipush (-9), 2) := by decide +kernel
theorem dX4_make_50 : decode cX4_make 50 = .ok (.invokevirtual 59, 3) := by decide +kernel
theorem dX4_make_53 : decode cX4_make 53 = .ok (.aload_n 0, 1) := by decide +kernel
theorem dX4_make_54 : decode cX4_make 54 = .ok (.getfield 20, 3) := by decide +kernel
theorem dX4_make_57 : decode cX4_make 57 = .ok (.iload 4, 2) := by decide +kernel
theorem dX4_make_59 : decode cX4_make 59 = .ok (.iconst (-1), 1) := by decide +kernel
theorem dX4_make_60 : decode cX4_make 60 = .ok (.invokevirtual 59, 3) := by decide +kernel
theorem dX4_make_63 : decode cX4_make 63 = .ok (.goto 15, 3) := by decide +kernel
theorem dX4_make_66 : decode cX4_make 66 = .ok (.aload_n 0, 1) := by decide +kernel
theorem dX4_make_67 : decode cX4_make 67 = .ok (.iload 4, 2) := by decide +kernel
theorem dX4_make_69 : decode cX4_make 69 = .ok (.aload_n 1, 1) := by decide +kernel
theorem dX4_make_70 : decode cX4_make 70 = .ok (.getfield 63, 3) := by decide +kernel
theorem dX4_make_73 : decode cX4_make 73 = .ok (.aload_n 2, 1) := by decide +kernel
theorem dX4_make_74 : decode cX4_make 74 = .ok (.aload_n 3, 1) := by decide +kernel
theorem dX4_make_75 : decode cX4_make 75 = .ok (.invokevirtual 67, 3) := by decide +kernel
theorem dX4_make_78 : decode cX4_make 78 = .ok (.iinc 4 1, 3) := by decide +kernel
theorem dX4_make_81 : decode cX4_make 81 = .ok (.goto (-78), 3) := by decide +kernel
theorem dX4_make_84 : decode cX4_make 84 = .ok (.return_, 1) := by decide +kernel
theorem dX4_column_0 : decode cX4_column 0 = .ok (.aload_n 0, 1) := by decide +kernel
theorem dX4_column_1 : decode cX4_column 1 = .ok (.getfield 14, 3) := by decide +kernel
theorem dX4_column_4 : decode cX4_column 4 = .ok (.iload_n 1, 1) := by decide +kernel
theorem dX4_column_5 : decode cX4_column 5 = .ok (.invokevirtual 50, 3) := by decide +kernel
theorem dX4_column_8 : decode cX4_column 8 = .ok (.bipush (-9), 2) := by decide +kernel
theorem dX4_column_10 : decode cX4_column 10 = .ok (.if_icmp .ne 6, 3) := by decide +kernel
theorem dX4_column_13 : decode cX4_column 13 = .ok (.bipush (-9), 2) := by decide +kernel
theorem dX4_column_15 : decode cX4_column 15 = .ok (.ireturn, 1) := by decide +kernel
theorem dX4_column_16 : decode cX4_column 16 = .ok (.aload_n 0, 1) := by decide +kernel
theorem dX4_column_17 : decode cX4_column 17 = .ok (.getfield 23, 3) := by decide +kernel
theorem dX4_column_20 : decode cX4_column 20 = .ok (.iload_n 1, 1) := by decide +kernel
theorem dX4_column_21 : decode cX4_column 21 = .ok (.invokevirtual 50, 3) := by decide +kernel
theorem dX4_column_24 : decode cX4_column 24 = .ok (.istore 5, 2) := by decide +kernel
theorem dX4_column_26 : decode cX4_column 26 = .ok (.iload 5, 2) := by decide +kernel
theorem dX4_column_28 : decode cX4_column 28 = .ok (.iconst (-1), 1) := by decide +kernel
theorem dX4_column_29 : decode cX4_column 29 = .ok (.if_icmp .ne 8, 3) := by decide +kernel
theorem dX4_column_32 : decode cX4_column 32 = .ok (.iload 4, 2) := by decide +kernel
theorem dX4_column_34 : decode cX4_column 34 = .ok (.goto 29, 3) := by decide +kernel
theorem dX4_column_37 : decode cX4_column 37 = .ok (.aload_n 2, 1) := by decide +kernel
theorem dX4_column_38 : decode cX4_column 38 = .ok (.iload 5, 2) := by decide +kernel
theorem dX4_column_40 : decode cX4_column 40 = .ok (.invokevirtual 50, 3) := by decide +kernel
theorem dX4_column_43 : decode cX4_column 43 = .ok (.aload_n 0, 1) := by decide +kernel
theorem dX4_column_44 : decode cX4_column 44 = .ok (.getfield 26, 3) := by decide +kernel
theorem dX4_column_47 : decode cX4_column 47 = .ok (.iload_n 1, 1) := by decide +kernel
theorem dX4_column_48 : decode cX4_column 48 = .ok (.invokevirtual 50, 3) := by decide +kernel
theorem dX4_column_51 : decode cX4_column 51 = .ok (.aload_n 0, 1) := by decide +kernel
theorem dX4_column_52 : decode cX4_column 52 = .ok (.getfield 29, 3) := by decide +kernel
theorem dX4_column_55 : decode cX4_column 55 = .ok (.iload_n 1, 1) := by decide +kernel
theorem dX4_column_56 : decode cX4_column 56 = .ok (.invokevirtual 50, 3) := by decide +kernel
theorem dX4_column_59 : decode cX4_column 59 = .ok (.iload_n 3, 1) := by decide +kernel
theorem dX4_column_60 : decode cX4_column 60 = .ok (.invokestatic 71, 3) := by decide +kernel
theorem dX4_column_63 : decode cX4_column 63 = .ok (.istore 6, 2) := by decide +kernel
theorem dX4_column_65 : decode cX4_column 65 = .ok (.iconst 0, 1) := by decide +kernel
theorem dX4_column_66 : decode cX4_column 66 = .ok (.bipush 40, 2) := by decide +kernel
theorem dX4_column_68 : decode cX4_column 68 = .ok (.iload 6, 2) := by decide +kernel
theorem dX4_column_70 : decode cX4_column 70 = .ok (.aload_n 0, 1) := by decide +kernel
theorem dX4_column_71 : decode cX4_column 71 = .ok (.getfield 32, 3) := by decide +kernel
theorem dX4_column_74 : decode cX4_column 74 = .ok (.iload_n 1, 1) := by decide +kernel
theorem dX4_column_75 : decode cX4_column 75 = .ok (.invokevirtual 50, 3) := by decide +kernel
theorem dX4_column_78 : decode cX4_column 78 = .ok (.iload_n 3, 1) := by decide +kernel
theorem dX4_column_79 : decode cX4_column 79 = .ok (.imul, 1) := by decide +kernel
theorem dX4_column_80 : decode cX4_column 80 = .ok (.iadd, 1) := by decide +kernel
theorem dX4_column_81 : decode cX4_column 81 = .ok (.invokestatic 75, 3) := by decide +kernel
theorem dX4_column_84 : decode cX4_column 84 = .ok (.invokestatic 81, 3) := by decide +kernel
theorem dX4_column_87 : decode cX4_column 87 = .ok (.ireturn, 1) := by decide +kernel
theorem dX4_decide_0 : decode cX4_decide 0 = .ok (.aload_n 3, 1) := by decide +kernel
theorem dX4_decide_1 : decode cX4_decide 1 = .ok (.getfield 84, 3) := by decide +kernel
theorem dX4_decide_4 : decode cX4_decide 4 = .ok (.iload_n 1, 1) := by decide +kernel
theorem dX4_decide_5 : decode cX4_decide 5 = .ok (.invokevirtual 50, 3) := by decide +kernel
theorem dX4_decide_8 : decode cX4_decide 8 = .ok (.istore 5, 2) := by decide +kernel
theorem dX4_decide_10 : decode cX4_decide 10 = .ok (.aload_n 3, 1) := by decide +kernel
theorem dX4_decide_11 : decode cX4_decide 11 = .ok (.getfield 84, 3) := by decide +kernel
theorem dX4_decide_14 : decode cX4_decide 14 = .ok (.iload_n 1, 1) := by decide +kernel
theorem dX4_decide_15 : decode cX4_decide 15 = .ok (.iconst 1, 1) := by decide +kernel
theorem dX4_decide_16 : decode cX4_decide 16 = .ok (.iadd, 1) := by decide +kernel
theorem dX4_decide_17 : decode cX4_decide 17 = .ok (.invokevirtual 50, 3) := by decide +kernel
theorem dX4_decide_20 : decode cX4_decide 20 = .ok (.istore 6, 2) := by decide +kernel
theorem dX4_decide_22 : decode cX4_decide 22 = .ok (.aload 4, 2) := by decide +kernel
theorem dX4_decide_24 : decode cX4_decide 24 = .ok (.iload 5, 2) := by decide +kernel
theorem dX4_decide_26 : decode cX4_decide 26 = .ok (.iload 6, 2) := by decide +kernel
theorem dX4_decide_28 : decode cX4_decide 28 = .ok (.invokevirtual 87, 3) := by decide +kernel
theorem dX4_decide_31 : decode cX4_decide 31 = .ok (.istore 7, 2) := by decide +kernel
theorem dX4_decide_33 : decode cX4_decide 33 = .ok (.iload 7, 2) := by decide +kernel
theorem dX4_decide_35 : decode cX4_decide 35 = .ok (.iconst (-1), 1) := by decide +kernel
theorem dX4_decide_36 : decode cX4_decide 36 = .ok (.if_icmp .ne 7, 3) := by decide +kernel
theorem dX4_decide_39 : decode cX4_decide 39 = .ok (.iconst (-1), 1) := by decide +kernel
theorem dX4_decide_40 : decode cX4_decide 40 = .ok (.goto 13, 3) := by decide +kernel
theorem dX4_decide_43 : decode cX4_decide 43 = .ok (.aload 4, 2) := by decide +kernel
theorem dX4_decide_45 : decode cX4_decide 45 = .ok (.getfield 92, 3) := by decide +kernel
theorem dX4_decide_48 : decode cX4_decide 48 = .ok (.iload 7, 2) := by decide +kernel
theorem dX4_decide_50 : decode cX4_decide 50 = .ok (.invokevirtual 50, 3) := by decide +kernel
theorem dX4_decide_53 : decode cX4_decide 53 = .ok (.istore 8, 2) := by decide +kernel
theorem dX4_decide_55 : decode cX4_decide 55 = .ok (.iload 8, 2) := by decide +kernel
theorem dX4_decide_57 : decode cX4_decide 57 = .ok (.iconst (-1), 1) := by decide +kernel
theorem dX4_decide_58 : decode cX4_decide 58 = .ok (.if_icmp .ne 7, 3) := by decide +kernel
theorem dX4_decide_61 : decode cX4_decide 61 = .ok (.iconst (-1), 1) := by decide +kernel
theorem dX4_decide_62 : decode cX4_decide 62 = .ok (.goto 13, 3) := by decide +kernel
theorem dX4_decide_65 : decode cX4_decide 65 = .ok (.aload 4, 2) := by decide +kernel
theorem dX4_decide_67 : decode cX4_decide 67 = .ok (.getfield 95, 3) := by decide +kernel
theorem dX4_decide_70 : decode cX4_decide 70 = .ok (.iload 8, 2) := by decide +kernel
theorem dX4_decide_72 : decode cX4_decide 72 = .ok (.invokevirtual 50, 3) := by decide +kernel
theorem dX4_decide_75 : decode cX4_decide 75 = .ok (.istore 9, 2) := by decide +kernel
theorem dX4_decide_77 : decode cX4_decide 77 = .ok (.iconst 3, 1) := by decide +kernel
theorem dX4_decide_78 : decode cX4_decide 78 = .ok (.istore 10, 2) := by decide +kernel
theorem dX4_decide_80 : decode cX4_decide 80 = .ok (.iload 5, 2) := by decide +kernel
theorem dX4_decide_82 : decode cX4_decide 82 = .ok (.iload 6, 2) := by decide +kernel
theorem dX4_decide_84 : decode cX4_decide 84 = .ok (.if_icmp .ge 21, 3) := by decide +kernel
theorem dX4_decide_87 : decode cX4_decide 87 = .ok (.aload_n 2, 1) := by decide +kernel
theorem dX4_decide_88 : decode cX4_decide 88 = .ok (.iconst 2, 1) := by decide +kernel
theorem dX4_decide_89 : decode cX4_decide 89 = .ok (.aload 4, 2) := by decide +kernel
theorem dX4_decide_91 : decode cX4_decide 91 = .ok (.getfield 98, 3) := by decide +kernel
theorem dX4_decide_94 : decode cX4_decide 94 = .ok (.iload 5, 2) := by decide +kernel
theorem dX4_decide_96 : decode cX4_decide 96 = .ok (.invokevirtual 50, 3) := by decide +kernel
theorem dX4_decide_99 : decode cX4_decide 99 = .ok (.invokevirtual 101, 3) := by decide +kernel
theorem dX4_decide_102 : decode cX4_decide 102 = .ok (.goto 4, 3) := by decide +kernel
theorem dX4_decide_105 : decode cX4_decide 105 = .ok (.iconst (-1), 1) := by decide +kernel
theorem dX4_decide_106 : decode cX4_decide 106 = .ok (.istore 11, 2) := by decide +kernel
theorem dX4_decide_108 : decode cX4_decide 108 = .ok (.aload_n 2, 1) := by decide +kernel
theorem dX4_decide_109 : decode cX4_decide 109 = .ok (.iload 11, 2) := by decide +kernel
theorem dX4_decide_111 : decode cX4_decide 111 = .ok (.iload 9, 2) := by decide +kernel
theorem dX4_decide_113 : decode cX4_decide 113 = .ok (.invokevirtual 106, 3) := by decide +kernel
theorem dX4_decide_116 : decode cX4_decide 116 = .ok (.ifCond .eq 10, 3) := by decide +kernel
theorem dX4_decide_119 : decode cX4_decide 119 = .ok (.iload 11, 2) := by decide +kernel
theorem dX4_decide_121 : decode cX4_decide 121 = .ok (.istore 9, 2) := by decide +kernel
theorem dX4_decide_123 : decode cX4_decide 123 = .ok (.iconst 4, 1) := by decide +kernel
theorem dX4_decide_124 : decode cX4_decide 124 = .ok (.istore 10, 2) := by decide +kernel
theorem dX4_decide_126 : decode cX4_decide 126 = .ok (.iload 5, 2) := by decide +kernel
theorem dX4_decide_128 : decode cX4_decide 128 = .ok (.iload 6, 2) := by decide +kernel
theorem dX4_decide_130 : decode cX4_decide 130 = .ok (.if_icmp .ge 16, 3) := by decide +kernel
theorem dX4_decide_133 : decode cX4_decide 133 = .ok (.iload 5, 2) := by decide +kernel
theorem dX4_decide_135 : decode cX4_decide 135 = .ok (.iconst 1, 1) := by decide +kernel
theorem dX4_decide_136 : decode cX4_decide 136 = .ok (.isub, 1) := by decide +kernel
theorem dX4_decide_137 : decode cX4_decide 137 = .ok (.aload_n 2, 1) := by decide +kernel
theorem dX4_decide_138 : decode cX4_decide 138 = .ok (.aload 4, 2) := by decide +kernel
theorem dX4_decide_140 : decode cX4_decide 140 = .ok (.invokestatic 110, 3) := by decide +kernel
theorem dX4_decide_143 : decode cX4_decide 143 = .ok (.goto 4, 3) := by decide +kernel
theorem dX4_decide_146 : decode cX4_decide 146 = .ok (.iconst (-1), 1) := by decide +kernel
theorem dX4_decide_147 : decode cX4_decide 147 = .ok (.istore 12, 2) := by decide +kernel
theorem dX4_decide_149 : decode cX4_decide 149 = .ok (.aload_n 2, 1) := by decide +kernel
theorem dX4_decide_150 : decode cX4_decide 150 = .ok (.iload 12, 2) := by decide +kernel
theorem dX4_decide_152 : decode cX4_decide 152 = .ok (.iload 9, 2) := by decide +kernel
theorem dX4_decide_154 : decode cX4_decide 154 = .ok (.invokevirtual 106, 3) := by decide +kernel
theorem dX4_decide_157 : decode cX4_decide 157 = .ok (.ifCond .eq 10, 3) := by decide +kernel
theorem dX4_decide_160 : decode cX4_decide 160 = .ok (.iload 12, 2) := by decide +kernel
theorem dX4_decide_162 : decode cX4_decide 162 = .ok (.istore 9, 2) := by decide +kernel
theorem dX4_decide_164 : decode cX4_decide 164 = .ok (.iconst 5, 1) := by decide +kernel
theorem dX4_decide_165 : decode cX4_decide 165 = .ok (.istore 10, 2) := by decide +kernel
theorem dX4_decide_167 : decode cX4_decide 167 = .ok (.iload 9, 2) := by decide +kernel
theorem dX4_decide_169 : decode cX4_decide 169 = .ok (.iconst (-1), 1) := by decide +kernel
theorem dX4_decide_170 : decode cX4_decide 170 = .ok (.if_icmp .eq 31, 3) := by decide +kernel
theorem dX4_decide_173 : decode cX4_decide 173 = .ok (.iload 10, 2) := by decide +kernel
theorem dX4_decide_175 : decode cX4_decide 175 = .ok (.iconst 3, 1) := by decide +kernel
theorem dX4_decide_176 : decode cX4_decide 176 = .ok (.if_icmp .ne 25, 3) := by decide +kernel
theorem dX4_decide_179 : decode cX4_decide 179 = .ok (.aload_n 0, 1) := by decide +kernel
theorem dX4_decide_180 : decode cX4_decide 180 = .ok (.iload_n 1, 1) := by decide +kernel
theorem dX4_decide_181 : decode cX4_decide 181 = .ok (.iload 8, 2) := by decide +kernel
theorem dX4_decide_183 : decode cX4_decide 183 = .ok (.aload_n 2, 1) := by decide +kernel
theorem dX4_decide_184 : decode cX4_decide 184 = .ok (.getfield 114, 3) := by decide +kernel
theorem dX4_decide_187 : decode cX4_decide 187 = .ok (.iload 9, 2) := by decide +kernel
theorem dX4_decide_189 : decode cX4_decide 189 = .ok (.invokevirtual 50, 3) := by decide +kernel
theorem dX4_decide_192 : decode cX4_decide 192 = .ok (.aload_n 3, 1) := by decide +kernel
theorem dX4_decide_193 : decode cX4_decide 193 = .ok (.aload 4, 2) := by decide +kernel
theorem dX4_decide_195 : decode cX4_decide 195 = .ok (.invokevirtual 117, 3) := by decide +kernel
theorem dX4_decide_198 : decode cX4_decide 198 = .ok (.goto 61, 3) := by decide +kernel
theorem dX4_decide_201 : decode cX4_decide 201 = .ok (.iload 8, 2) := by decide +kernel
theorem dX4_decide_203 : decode cX4_decide 203 = .ok (.iconst (-1), 1) := by decide +kernel
theorem dX4_decide_204 : decode cX4_decide 204 = .ok (.if_icmp .ne 15, 3) := by decide +kernel
theorem dX4_decide_207 : decode cX4_decide 207 = .ok (.aload 4, 2) := by decide +kernel
theorem dX4_decide_209 : decode cX4_decide 209 = .ok (.getfield 121, 3) := by decide +kernel
theorem dX4_decide_212 : decode cX4_decide 212 = .ok (.iload_n 1, 1) := by decide +kernel
theorem dX4_decide_213 : decode cX4_decide 213 = .ok (.invokevirtual 50, 3) := by decide +kernel
theorem dX4_decide_216 : decode cX4_decide 216 = .ok (.goto 13, 3) := by decide +kernel
theorem dX4_decide_219 : decode cX4_decide 219 = .ok (.aload 4, 2) := by decide +kernel
theorem dX4_decide_221 : decode cX4_decide 221 = .ok (.getfield 124, 3) := by decide +kernel
theorem dX4_decide_224 : decode cX4_decide 224 = .ok (.iload 8, 2) := by decide +kernel
theorem dX4_decide_226 : decode cX4_decide 226 = .ok (.invokevirtual 50, 3) := by decide +kernel
theorem dX4_decide_229 : decode cX4_decide 229 = .ok (.istore 13, 2) := by decide +kernel
theorem dX4_decide_231 : decode cX4_decide 231 = .ok (.aload_n 0, 1) := by decide +kernel
theorem dX4_decide_232 : decode cX4_decide 232 = .ok (.iload_n 1, 1) := by decide +kernel
theorem dX4_decide_233 : decode cX4_decide 233 = .ok (.aload 4, 2) := by decide +kernel
theorem dX4_decide_235 : decode cX4_decide 235 = .ok (.iload_n 1, 1) := by decide +kernel
theorem dX4_decide_236 : decode cX4_decide 236 = .ok (.iload 13, 2) := by decide +kernel
theorem dX4_decide_238 : decode cX4_decide 238 = .ok (.iconst 1, 1) := by decide +kernel
theorem dX4_decide_239 : decode cX4_decide 239 = .ok (.isub, 1) := by decide +kernel
theorem dX4_decide_240 : decode cX4_decide 240 = .ok (.invokevirtual 127, 3) := by decide +kernel
theorem dX4_decide_243 : decode cX4_decide 243 = .ok (.aload_n 3, 1) := by decide +kernel
theorem dX4_decide_244 : decode cX4_decide 244 = .ok (.aload 4, 2) := by decide +kernel
theorem dX4_decide_246 : decode cX4_decide 246 = .ok (.invokevirtual 130, 3) := by decide +kernel
theorem dX4_decide_249 : decode cX4_decide 249 = .ok (.aload_n 0, 1) := by decide +kernel
theorem dX4_decide_250 : decode cX4_decide 250 = .ok (.iload_n 1, 1) := by decide +kernel
theorem dX4_decide_251 : decode cX4_decide 251 = .ok (.iload 9, 2) := by decide +kernel
theorem dX4_decide_253 : decode cX4_decide 253 = .ok (.iload 10, 2) := by decide +kernel
theorem dX4_decide_255 : decode cX4_decide 255 = .ok (.aload_n 2, 1) := by decide +kernel
theorem dX4_decide_256 : decode cX4_decide 256 = .ok (.invokevirtual 134, 3) := by decide +kernel
theorem dX4_decide_259 : decode cX4_decide 259 = .ok (.return_, 1) := by decide +kernel
theorem dX4_joinerBehind_0 : decode cX4_joinerBehind 0 = .ok (.iload_n 0, 1) := by decide +kernel
theorem dX4_joinerBehind_1 : decode cX4_joinerBehind 1 = .ok (.ifCond .lt 15, 3) := by decide +kernel
theorem dX4_joinerBehind_4 : decode cX4_joinerBehind 4 = .ok (.aload_n 2, 1) := by decide +kernel
theorem dX4_joinerBehind_5 : decode cX4_joinerBehind 5 = .ok (.getfield 95, 3) := by decide +kernel
theorem dX4_joinerBehind_8 : decode cX4_joinerBehind 8 = .ok (.iload_n 0, 1) := by decide +kernel
theorem dX4_joinerBehind_9 : decode cX4_joinerBehind 9 = .ok (.invokevirtual 50, 3) := by decide +kernel
theorem dX4_joinerBehind_12 : decode cX4_joinerBehind 12 = .ok (.iconst (-1), 1) := by decide +kernel
theorem dX4_joinerBehind_13 : decode cX4_joinerBehind 13 = .ok (.if_icmp .eq 7, 3) := by decide +kernel
theorem dX4_joinerBehind_16 : decode cX4_joinerBehind 16 = .ok (.iconst (-1), 1) := by decide +kernel
theorem dX4_joinerBehind_17 : decode cX4_joinerBehind 17 = .ok (.goto 16, 3) := by decide +kernel
theorem dX4_joinerBehind_20 : decode cX4_joinerBehind 20 = .ok (.aload_n 1, 1) := by decide +kernel
theorem dX4_joinerBehind_21 : decode cX4_joinerBehind 21 = .ok (.iconst 3, 1) := by decide +kernel
theorem dX4_joinerBehind_22 : decode cX4_joinerBehind 22 = .ok (.aload_n 2, 1) := by decide +kernel
theorem dX4_joinerBehind_23 : decode cX4_joinerBehind 23 = .ok (.getfield 98, 3) := by decide +kernel
theorem dX4_joinerBehind_26 : decode cX4_joinerBehind 26 = .ok (.iload_n 0, 1) := by decide +kernel
theorem dX4_joinerBehind_27 : decode cX4_joinerBehind 27 = .ok (.invokevirtual 50, 3) := by decide +kernel
theorem dX4_joinerBehind_30 : decode cX4_joinerBehind 30 = .ok (.invokevirtual 101, 3) := by decide +kernel
theorem dX4_joinerBehind_33 : decode cX4_joinerBehind 33 = .ok (.ireturn, 1) := by decide +kernel
theorem dX4_standOnGround_0 : decode cX4_standOnGround 0 = .ok (.aload_n 0, 1) := by decide +kernel
theorem dX4_standOnGround_1 : decode cX4_standOnGround 1 = .ok (.getfield 32, 3) := by decide +kernel
theorem dX4_standOnGround_4 : decode cX4_standOnGround 4 = .ok (.iload_n 1, 1) := by decide +kernel
theorem dX4_standOnGround_5 : decode cX4_standOnGround 5 = .ok (.iconst 0, 1) := by decide +kernel
theorem dX4_standOnGround_6 : decode cX4_standOnGround 6 = .ok (.invokevirtual 59, 3) := by decide +kernel
theorem dX4_standOnGround_9 : decode cX4_standOnGround 9 = .ok (.iload_n 2, 1) := by decide +kernel
theorem dX4_standOnGround_10 : decode cX4_standOnGround 10 = .ok (.iconst (-1), 1) := by decide +kernel
theorem dX4_standOnGround_11 : decode cX4_standOnGround 11 = .ok (.if_icmp .ne 31, 3) := by decide +kernel
theorem dX4_standOnGround_14 : decode cX4_standOnGround 14 = .ok (.aload_n 0, 1) := by decide +kernel
theorem dX4_standOnGround_15 : decode cX4_standOnGround 15 = .ok (.getfield 14, 3) := by decide +kernel
theorem dX4_standOnGround_18 : decode cX4_standOnGround 18 = .ok (.iload_n 1, 1) := by decide +kernel
theorem dX4_standOnGround_19 : decode cX4_standOnGround 19 = .ok (.iconst 0, 1) := by decide +kernel
theorem dX4_standOnGround_20 : decode cX4_standOnGround 20 = .ok (.invokevirtual 59, 3) := by decide +kernel
theorem dX4_standOnGround_23 : decode cX4_standOnGround 23 = .ok (.aload_n 0, 1) := by decide +kernel
theorem dX4_standOnGround_24 : decode cX4_standOnGround 24 = .ok (.getfield 20, 3) := by decide +kernel
theorem dX4_standOnGround_27 : decode cX4_standOnGround 27 = .ok (.iload_n 1, 1) := by decide +kernel
theorem dX4_standOnGround_28 : decode cX4_standOnGround 28 = .ok (.iconst (-1), 1) := by decide +kernel
theorem dX4_standOnGround_29 : decode cX4_standOnGround 29 = .ok (.invokevirtual 59, 3) := by decide +kernel
theorem dX4_standOnGround_32 : decode cX4_standOnGround 32 = .ok (.aload_n 0, 1) := by decide +kernel
theorem dX4_standOnGround_33 : decode cX4_standOnGround 33 = .ok (.getfield 23, 3) := by decide +kernel
theorem dX4_standOnGround_36 : decode cX4_standOnGround 36 = .ok (.iload_n 1, 1) := by decide +kernel
theorem dX4_standOnGround_37 : decode cX4_standOnGround 37 = .ok (.iconst (-1), 1) := by decide +kernel
theorem dX4_standOnGround_38 : decode cX4_standOnGround 38 = .ok (.invokevirtual 59, 3) := by decide +kernel
theorem dX4_standOnGround_41 : decode cX4_standOnGround 41 = .ok (.return_, 1) := by decide +kernel
theorem dX4_standOnGround_42 : decode cX4_standOnGround 42 = .ok (.aload_n 0, 1) := by decide +kernel
theorem dX4_standOnGround_43 : decode cX4_standOnGround 43 = .ok (.getfield 14, 3) := by decide +kernel
theorem dX4_standOnGround_46 : decode cX4_standOnGround 46 = .ok (.iload_n 1, 1) := by decide +kernel
theorem dX4_standOnGround_47 : decode cX4_standOnGround 47 = .ok (.aload 4, 2) := by decide +kernel
theorem dX4_standOnGround_49 : decode cX4_standOnGround 49 = .ok (.getfield 138, 3) := by decide +kernel
theorem dX4_standOnGround_52 : decode cX4_standOnGround 52 = .ok (.iload_n 2, 1) := by decide +kernel
theorem dX4_standOnGround_53 : decode cX4_standOnGround 53 = .ok (.invokevirtual 50, 3) := by decide +kernel
theorem dX4_standOnGround_56 : decode cX4_standOnGround 56 = .ok (.ifCond .le 7, 3) := by decide +kernel
theorem dX4_standOnGround_59 : decode cX4_standOnGround 59 = .ok (.iconst 2, 1) := by decide +kernel
theorem dX4_standOnGround_60 : decode cX4_standOnGround 60 = .ok (.goto 4, 3) := by decide +kernel
theorem dX4_standOnGround_63 : decode cX4_standOnGround 63 = .ok (.iconst 1, 1) := by decide +kernel
theorem dX4_standOnGround_64 : decode cX4_standOnGround 64 = .ok (.invokevirtual 59, 3) := by decide +kernel
theorem dX4_standOnGround_67 : decode cX4_standOnGround 67 = .ok (.aload_n 0, 1) := by decide +kernel
theorem dX4_standOnGround_68 : decode cX4_standOnGround 68 = .ok (.getfield 20, 3) := by decide +kernel
theorem dX4_standOnGround_71 : decode cX4_standOnGround 71 = .ok (.iload_n 1, 1) := by decide +kernel
theorem dX4_standOnGround_72 : decode cX4_standOnGround 72 = .ok (.aload 4, 2) := by decide +kernel
theorem dX4_standOnGround_74 : decode cX4_standOnGround 74 = .ok (.getfield 95, 3) := by decide +kernel
theorem dX4_standOnGround_77 : decode cX4_standOnGround 77 = .ok (.iload_n 2, 1) := by decide +kernel
theorem dX4_standOnGround_78 : decode cX4_standOnGround 78 = .ok (.invokevirtual 50, 3) := by decide +kernel
theorem dX4_standOnGround_81 : decode cX4_standOnGround 81 = .ok (.invokevirtual 59, 3) := by decide +kernel
theorem dX4_standOnGround_84 : decode cX4_standOnGround 84 = .ok (.aload_n 0, 1) := by decide +kernel
theorem dX4_standOnGround_85 : decode cX4_standOnGround 85 = .ok (.getfield 23, 3) := by decide +kernel
theorem dX4_standOnGround_88 : decode cX4_standOnGround 88 = .ok (.iload_n 1, 1) := by decide +kernel
theorem dX4_standOnGround_89 : decode cX4_standOnGround 89 = .ok (.aload_n 3, 1) := by decide +kernel
theorem dX4_standOnGround_90 : decode cX4_standOnGround 90 = .ok (.getfield 139, 3) := by decide +kernel
theorem dX4_standOnGround_93 : decode cX4_standOnGround 93 = .ok (.iload_n 2, 1) := by decide +kernel
theorem dX4_standOnGround_94 : decode cX4_standOnGround 94 = .ok (.invokevirtual 50, 3) := by decide +kernel
theorem dX4_standOnGround_97 : decode cX4_standOnGround 97 = .ok (.invokevirtual 59, 3) := by decide +kernel
theorem dX4_standOnGround_100 : decode cX4_standOnGround 100 = .ok (.aload_n 0, 1) := by decide +kernel
theorem dX4_standOnGround_101 : decode cX4_standOnGround 101 = .ok (.getfield 26, 3) := by decide +kernel
theorem dX4_standOnGround_104 : decode cX4_standOnGround 104 = .ok (.iload_n 1, 1) := by decide +kernel
theorem dX4_standOnGround_105 : decode cX4_standOnGround 105 = .ok (.aload 4, 2) := by decide +kernel
theorem dX4_standOnGround_107 : decode cX4_standOnGround 107 = .ok (.getfield 138, 3) := by decide +kernel
theorem dX4_standOnGround_110 : decode cX4_standOnGround 110 = .ok (.iload_n 2, 1) := by decide +kernel
theorem dX4_standOnGround_111 : decode cX4_standOnGround 111 = .ok (.invokevirtual 50, 3) := by decide +kernel
theorem dX4_standOnGround_114 : decode cX4_standOnGround 114 = .ok (.invokevirtual 59, 3) := by decide +kernel
theorem dX4_standOnGround_117 : decode cX4_standOnGround 117 = .ok (.aload_n 0, 1) := by decide +kernel
theorem dX4_standOnGround_118 : decode cX4_standOnGround 118 = .ok (.getfield 29, 3) := by decide +kernel
theorem dX4_standOnGround_121 : decode cX4_standOnGround 121 = .ok (.iload_n 1, 1) := by decide +kernel
theorem dX4_standOnGround_122 : decode cX4_standOnGround 122 = .ok (.aload 4, 2) := by decide +kernel
theorem dX4_standOnGround_124 : decode cX4_standOnGround 124 = .ok (.getfield 142, 3) := by decide +kernel
theorem dX4_standOnGround_127 : decode cX4_standOnGround 127 = .ok (.iload_n 2, 1) := by decide +kernel
theorem dX4_standOnGround_128 : decode cX4_standOnGround 128 = .ok (.invokevirtual 50, 3) := by decide +kernel
theorem dX4_standOnGround_131 : decode cX4_standOnGround 131 = .ok (.invokevirtual 59, 3) := by decide +kernel
theorem dX4_standOnGround_134 : decode cX4_standOnGround 134 = .ok (.return_, 1) := by decide +kernel
theorem dX4_addSteps_0 : decode cX4_addSteps 0 = .ok (.iload_n 2, 1) := by decide +kernel
theorem dX4_addSteps_1 : decode cX4_addSteps 1 = .ok (.iconst (-1), 1) := by decide +kernel
theorem dX4_addSteps_2 : decode cX4_addSteps 2 = .ok (.if_icmp .eq 38, 3) := by decide +kernel
theorem dX4_addSteps_5 : decode cX4_addSteps 5 = .ok (.aload_n 0, 1) := by decide +kernel
theorem dX4_addSteps_6 : decode cX4_addSteps 6 = .ok (.getfield 14, 3) := by decide +kernel
theorem dX4_addSteps_9 : decode cX4_addSteps 9 = .ok (.iload_n 1, 1) := by decide +kernel
theorem dX4_addSteps_10 : decode cX4_addSteps 10 = .ok (.iload_n 3, 1) := by decide +kernel
theorem dX4_addSteps_11 : decode cX4_addSteps 11 = .ok (.invokevirtual 59, 3) := by decide +kernel
theorem dX4_addSteps_14 : decode cX4_addSteps 14 = .ok (.aload_n 0, 1) := by decide +kernel
theorem dX4_addSteps_15 : decode cX4_addSteps 15 = .ok (.getfield 20, 3) := by decide +kernel
theorem dX4_addSteps_18 : decode cX4_addSteps 18 = .ok (.iload_n 1, 1) := by decide +kernel
theorem dX4_addSteps_19 : decode cX4_addSteps 19 = .ok (.iload_n 2, 1) := by decide +kernel
theorem dX4_addSteps_20 : decode cX4_addSteps 20 = .ok (.invokevirtual 59, 3) := by decide +kernel
theorem dX4_addSteps_23 : decode cX4_addSteps 23 = .ok (.aload_n 0, 1) := by decide +kernel
theorem dX4_addSteps_24 : decode cX4_addSteps 24 = .ok (.getfield 32, 3) := by decide +kernel
theorem dX4_addSteps_27 : decode cX4_addSteps 27 = .ok (.iload_n 1, 1) := by decide +kernel
theorem dX4_addSteps_28 : decode cX4_addSteps 28 = .ok (.aload 4, 2) := by decide +kernel
theorem dX4_addSteps_30 : decode cX4_addSteps 30 = .ok (.getfield 143, 3) := by decide +kernel
theorem dX4_addSteps_33 : decode cX4_addSteps 33 = .ok (.iload_n 2, 1) := by decide +kernel
theorem dX4_addSteps_34 : decode cX4_addSteps 34 = .ok (.invokevirtual 50, 3) := by decide +kernel
theorem dX4_addSteps_37 : decode cX4_addSteps 37 = .ok (.invokevirtual 59, 3) := by decide +kernel
theorem dX4_addSteps_40 : decode cX4_addSteps 40 = .ok (.return_, 1) := by decide +kernel
theorem dX4_standByClosed_0 : decode cX4_standByClosed 0 = .ok (.aload_n 0, 1) := by decide +kernel
theorem dX4_standByClosed_1 : decode cX4_standByClosed 1 = .ok (.iload_n 1, 1) := by decide +kernel
theorem dX4_standByClosed_2 : decode cX4_standByClosed 2 = .ok (.iload_n 2, 1) := by decide +kernel
theorem dX4_standByClosed_3 : decode cX4_standByClosed 3 = .ok (.aload 4, 2) := by decide +kernel
theorem dX4_standByClosed_5 : decode cX4_standByClosed 5 = .ok (.aload 5, 2) := by decide +kernel
theorem dX4_standByClosed_7 : decode cX4_standByClosed 7 = .ok (.invokevirtual 130, 3) := by decide +kernel
theorem dX4_standByClosed_10 : decode cX4_standByClosed 10 = .ok (.aload_n 0, 1) := by decide +kernel
theorem dX4_standByClosed_11 : decode cX4_standByClosed 11 = .ok (.getfield 14, 3) := by decide +kernel
theorem dX4_standByClosed_14 : decode cX4_standByClosed 14 = .ok (.iload_n 1, 1) := by decide +kernel
theorem dX4_standByClosed_15 : decode cX4_standByClosed 15 = .ok (.iconst 3, 1) := by decide +kernel
theorem dX4_standByClosed_16 : decode cX4_standByClosed 16 = .ok (.invokevirtual 59, 3) := by decide +kernel
theorem dX4_standByClosed_19 : decode cX4_standByClosed 19 = .ok (.iload_n 3, 1) := by decide +kernel
theorem dX4_standByClosed_20 : decode cX4_standByClosed 20 = .ok (.iconst 1, 1) := by decide +kernel
theorem dX4_standByClosed_21 : decode cX4_standByClosed 21 = .ok (.if_icmp .eq 37, 3) := by decide +kernel
theorem dX4_standByClosed_24 : decode cX4_standByClosed 24 = .ok (.aload_n 0, 1) := by decide +kernel
theorem dX4_standByClosed_25 : decode cX4_standByClosed 25 = .ok (.getfield 29, 3) := by decide +kernel
theorem dX4_standByClosed_28 : decode cX4_standByClosed 28 = .ok (.iload_n 1, 1) := by decide +kernel
theorem dX4_standByClosed_29 : decode cX4_standByClosed 29 = .ok (.iconst 0, 1) := by decide +kernel
theorem dX4_standByClosed_30 : decode cX4_standByClosed 30 = .ok (.invokevirtual 59, 3) := by decide +kernel
theorem dX4_standByClosed_33 : decode cX4_standByClosed 33 = .ok (.aload_n 0, 1) := by decide +kernel
theorem dX4_standByClosed_34 : decode cX4_standByClosed 34 = .ok (.getfield 26, 3) := by decide +kernel
theorem dX4_standByClosed_37 : decode cX4_standByClosed 37 = .ok (.iload_n 1, 1) := by decide +kernel
theorem dX4_standByClosed_38 : decode cX4_standByClosed 38 = .ok (.iload_n 3, 1) := by decide +kernel
theorem dX4_standByClosed_39 : decode cX4_standByClosed 39 = .ok (.ifCond .ne 7, 3) := by decide +kernel
theorem dX4_standByClosed_42 : decode cX4_standByClosed 42 = .ok (.iconst 0, 1) := by decide +kernel
theorem dX4_standByClosed_43 : decode cX4_standByClosed 43 = .ok (.goto 12, 3) := by decide +kernel
theorem dX4_standByClosed_46 : decode cX4_standByClosed 46 = .ok (.aload 4, 2) := by decide +kernel
theorem dX4_standByClosed_48 : decode cX4_standByClosed 48 = .ok (.getfield 144, 3) := by decide +kernel
theorem dX4_standByClosed_51 : decode cX4_standByClosed 51 = .ok (.iload_n 2, 1) := by decide +kernel
theorem dX4_standByClosed_52 : decode cX4_standByClosed 52 = .ok (.invokevirtual 50, 3) := by decide +kernel
theorem dX4_standByClosed_55 : decode cX4_standByClosed 55 = .ok (.invokevirtual 59, 3) := by decide +kernel
theorem dX4_standByClosed_58 : decode cX4_standByClosed 58 = .ok (.return_, 1) := by decide +kernel
theorem dX5_init_0 : decode cX5_init 0 = .ok (.aload_n 0, 1) := by decide +kernel
theorem dX5_init_1 : decode cX5_init 1 = .ok (.invokespecial 3, 3) := by decide +kernel
theorem dX5_init_4 : decode cX5_init 4 = .ok (.aload_n 0, 1) := by decide +kernel
theorem dX5_init_5 : decode cX5_init 5 = .ok (.iconst 0, 1) := by decide +kernel
theorem dX5_init_6 : decode cX5_init 6 = .ok (.iload_n 1, 1) := by decide +kernel
theorem dX5_init_7 : decode cX5_init 7 = .ok (.invokestatic 9, 3) := by decide +kernel
theorem dX5_init_10 : decode cX5_init 10 = .ok (.newarray .int, 2) := by decide +kernel
theorem dX5_init_12 : decode cX5_init 12 = .ok (.putfield 15, 3) := by decide +kernel
theorem dX5_init_15 : decode cX5_init 15 = .ok (.return_, 1) := by decide +kernel
theorem dX5_get_0 : decode cX5_get 0 = .ok (.iload_n 1, 1) := by decide +kernel
theorem dX5_get_1 : decode cX5_get 1 = .ok (.ifCond .lt 21, 3) := by decide +kernel
theorem dX5_get_4 : decode cX5_get 4 = .ok (.iload_n 1, 1) := by decide +kernel
theorem dX5_get_5 : decode cX5_get 5 = .ok (.aload_n 0, 1) := by decide +kernel
theorem dX5_get_6 : decode cX5_get 6 = .ok (.getfield 15, 3) := by decide +kernel
theorem dX5_get_9 : decode cX5_get 9 = .ok (.arraylength, 1) := by decide +kernel
theorem dX5_get_10 : decode cX5_get 10 = .ok (.if_icmp .ge 12, 3) := by decide +kernel
theorem dX5_get_13 : decode cX5_get 13 = .ok (.aload_n 0, 1) := by decide +kernel
theorem dX5_get_14 : decode cX5_get 14 = .ok (.getfield 15, 3) := by decide +kernel
theorem dX5_get_17 : decode cX5_get 17 = .ok (.iload_n 1, 1) := by decide +kernel
theorem dX5_get_18 : decode cX5_get 18 = .ok (.iaload, 1) := by decide +kernel
theorem dX5_get_19 : decode cX5_get 19 = .ok (.goto 4, 3) := by decide +kernel
theorem dX5_get_22 : decode cX5_get 22 = .ok (.iconst (-1), 1) := by decide +kernel
theorem dX5_get_23 : decode cX5_get 23 = .ok (.ireturn, 1) := by decide +kernel
theorem dX5_set_0 : decode cX5_set 0 = .ok (.iload_n 1, 1) := by decide +kernel
theorem dX5_set_1 : decode cX5_set 1 = .ok (.ifCond .lt 19, 3) := by decide +kernel
theorem dX5_set_4 : decode cX5_set 4 = .ok (.iload_n 1, 1) := by decide +kernel
theorem dX5_set_5 : decode cX5_set 5 = .ok (.aload_n 0, 1) := by decide +kernel
theorem dX5_set_6 : decode cX5_set 6 = .ok (.getfield 15, 3) := by decide +kernel
theorem dX5_set_9 : decode cX5_set 9 = .ok (.arraylength, 1) := by decide +kernel
theorem dX5_set_10 : decode cX5_set 10 = .ok (.if_icmp .ge 10, 3) := by decide +kernel
theorem dX5_set_13 : decode cX5_set 13 = .ok (.aload_n 0, 1) := by decide +kernel
theorem dX5_set_14 : decode cX5_set 14 = .ok (.getfield 15, 3) := by decide +kernel
theorem dX5_set_17 : decode cX5_set 17 = .ok (.iload_n 1, 1) := by decide +kernel
theorem dX5_set_18 : decode cX5_set 18 = .ok (.iload_n 2, 1) := by decide +kernel
theorem dX5_set_19 : decode cX5_set 19 = .ok (.iastore, 1) := by decide +kernel
theorem dX5_set_20 : decode cX5_set 20 = .ok (.return_, 1) := by decide +kernel
theorem dX5_copy_0 : decode cX5_copy 0 = .ok (.aload_n 1, 1) := by decide +kernel
theorem dX5_copy_1 : decode cX5_copy 1 = .ok (.getfield 15, 3) := by decide +kernel
theorem dX5_copy_4 : decode cX5_copy 4 = .ok (.iconst 0, 1) := by decide +kernel
theorem dX5_copy_5 : decode cX5_copy 5 = .ok (.aload_n 0, 1) := by decide +kernel
theorem dX5_copy_6 : decode cX5_copy 6 = .ok (.getfield 15, 3) := by decide +kernel
theorem dX5_copy_9 : decode cX5_copy 9 = .ok (.iconst 0, 1) := by decide +kernel
theorem dX5_copy_10 : decode cX5_copy 10 = .ok (.aload_n 0, 1) := by decide +kernel
theorem dX5_copy_11 : decode cX5_copy 11 = .ok (.getfield 15, 3) := by decide +kernel
theorem dX5_copy_14 : decode cX5_copy 14 = .ok (.arraylength, 1) := by decide +kernel
theorem dX5_copy_15 : decode cX5_copy 15 = .ok (.aload_n 1, 1) := by decide +kernel
theorem dX5_copy_16 : decode cX5_copy 16 = .ok (.getfield 15, 3) := by decide +kernel
theorem dX5_copy_19 : decode cX5_copy 19 = .ok (.arraylength, 1) := by decide +kernel
theorem dX5_copy_20 : decode cX5_copy 20 = .ok (.invokestatic 21, 3) := by decide +kernel
theorem dX5_copy_23 : decode cX5_copy 23 = .ok (.invokestatic 24, 3) := by decide +kernel
theorem dX5_copy_26 : decode cX5_copy 26 = .ok (.return_, 1) := by decide +kernel
theorem dX6_init_0 : decode cX6_init 0 = .ok (.aload_n 0, 1) := by decide +kernel
theorem dX6_init_1 : decode cX6_init 1 = .ok (.invokespecial 3, 3) := by decide +kernel
theorem dX6_init_4 : decode cX6_init 4 = .ok (.aload_n 0, 1) := by decide +kernel
theorem dX6_init_5 : decode cX6_init 5 = .ok (.new 9, 3) := by decide +kernel
theorem dX6_init_8 : decode cX6_init 8 = .ok (.dup, 1) := by decide +kernel
theorem dX6_init_9 : decode cX6_init 9 = .ok (.iconst 2, 1) := by decide +kernel
theorem dX6_init_10 : decode cX6_init 10 = .ok (.invokespecial 11, 3) := by decide +kernel
theorem dX6_init_13 : decode cX6_init 13 = .ok (.putfield 14, 3) := by decide +kernel
theorem dX6_init_16 : decode cX6_init 16 = .ok (.aload_n 0, 1) := by decide +kernel
theorem dX6_init_17 : decode cX6_init 17 = .ok (.new 9, 3) := by decide +kernel
theorem dX6_init_20 : decode cX6_init 20 = .ok (.dup, 1) := by decide +kernel
theorem dX6_init_21 : decode cX6_init 21 = .ok (.iconst 2, 1) := by decide +kernel
theorem dX6_init_22 : decode cX6_init 22 = .ok (.invokespecial 11, 3) := by decide +kernel
theorem dX6_init_25 : decode cX6_init 25 = .ok (.putfield 20, 3) := by decide +kernel
theorem dX6_init_28 : decode cX6_init 28 = .ok (.aload_n 0, 1) := by decide +kernel
theorem dX6_init_29 : decode cX6_init 29 = .ok (.iconst 0, 1) := by decide +kernel
theorem dX6_init_30 : decode cX6_init 30 = .ok (.putfield 23, 3) := by decide +kernel
theorem dX6_init_33 : decode cX6_init 33 = .ok (.return_, 1) := by decide +kernel
theorem dX6_find_0 : decode cX6_find 0 = .ok (.aload_n 0, 1) := by decide +kernel
theorem dX6_find_1 : decode cX6_find 1 = .ok (.iconst 0, 1) := by decide +kernel
theorem dX6_find_2 : decode cX6_find 2 = .ok (.putfield 23, 3) := by decide +kernel
theorem dX6_find_5 : decode cX6_find 5 = .ok (.iconst 0, 1) := by decide +kernel
theorem dX6_find_6 : decode cX6_find 6 = .ok (.istore_n 3, 1) := by decide +kernel
theorem dX6_find_7 : decode cX6_find 7 = .ok (.iconst 0, 1) := by decide +kernel
theorem dX6_find_8 : decode cX6_find 8 = .ok (.istore 4, 2) := by decide +kernel
theorem dX6_find_10 : decode cX6_find 10 = .ok (.iload 4, 2) := by decide +kernel
theorem dX6_find_12 : decode cX6_find 12 = .ok (.aload_n 1, 1) := by decide +kernel
theorem dX6_find_13 : decode cX6_find 13 = .ok (.getfield 27, 3) := by decide +kernel
theorem dX6_find_16 : decode cX6_find 16 = .ok (.if_icmp .ge 115, 3) := by decide +kernel
theorem dX6_find_19 : decode cX6_find 19 = .ok (.aload_n 1, 1) := by decide +kernel
theorem dX6_find_20 : decode cX6_find 20 = .ok (.iload 4, 2) := by decide +kernel
theorem dX6_find_22 : decode cX6_find 22 = .ok (.invokevirtual 32, 3) := by decide +kernel
theorem dX6_find_25 : decode cX6_find 25 = .ok (.istore 5, 2) := by decide +kernel
theorem dX6_find_27 : decode cX6_find 27 = .ok (.iload 5, 2) := by decide +kernel
theorem dX6_find_29 : decode cX6_find 29 = .ok (.bipush 32, 2) := by decide +kernel
theorem dX6_find_31 : decode cX6_find 31 = .ok (.if_icmp .ne 6, 3) := by decide +kernel
theorem dX6_find_34 : decode cX6_find 34 = .ok (.goto 84, 3) := by decide +kernel
theorem dX6_find_37 : decode cX6_find 37 = .ok (.iload 5, 2) := by decide +kernel
theorem dX6_find_39 : decode cX6_find 39 = .ok (.bipush 34, 2) := by decide +kernel
theorem dX6_find_41 : decode cX6_find 41 = .ok (.if_icmp .eq 11, 3) := by decide +kernel
theorem dX6_find_44 : decode cX6_find 44 = .ok (.aload_n 0, 1) := by decide +kernel
theorem dX6_find_45 : decode cX6_find 45 = .ok (.getfield 23, 3) := by decide +kernel
theorem dX6_find_48 : decode cX6_find 48 = .ok (.iload_n 2, 1) := by decide +kernel
theorem dX6_find_49 : decode cX6_find 49 = .ok (.if_icmp .lt 9, 3) := by decide +kernel
theorem dX6_find_52 : decode cX6_find 52 = .ok (.bipush (-10), 2) := by decide +kernel
theorem dX6_find_54 : decode cX6_find 54 = .ok (.iload 4, 2) := by decide +kernel
theorem dX6_find_56 : decode cX6_find 56 = .ok (.isub, 1) := by decide +kernel
theorem dX6_find_57 : decode cX6_find 57 = .ok (.ireturn, 1) := by decide +kernel
theorem dX6_find_58 : decode cX6_find 58 = .ok (.aload_n 1, 1) := by decide +kernel
theorem dX6_find_59 : decode cX6_find 59 = .ok (.iload 4, 2) := by decide +kernel
theorem dX6_find_61 : decode cX6_find 61 = .ok (.invokestatic 36, 3) := by decide +kernel
theorem dX6_find_64 : decode cX6_find 64 = .ok (.istore_n 3, 1) := by decide +kernel
theorem dX6_find_65 : decode cX6_find 65 = .ok (.iload_n 3, 1) := by decide +kernel
theorem dX6_find_66 : decode cX6_find 66 = .ok (.iload 4, 2) := by decide +kernel
theorem dX6_find_68 : decode cX6_find 68 = .ok (.isub, 1) := by decide +kernel
theorem dX6_find_69 : decode cX6_find 69 = .ok (.bipush 8, 2) := by decide +kernel
theorem dX6_find_71 : decode cX6_find 71 = .ok (.if_icmp .le 12, 3) := by decide +kernel
theorem dX6_find_74 : decode cX6_find 74 = .ok (.bipush (-10), 2) := by decide +kernel
theorem dX6_find_76 : decode cX6_find 76 = .ok (.iload 4, 2) := by decide +kernel
theorem dX6_find_78 : decode cX6_find 78 = .ok (.isub, 1) := by decide +kernel
theorem dX6_find_79 : decode cX6_find 79 = .ok (.bipush 8, 2) := by decide +kernel
theorem dX6_find_81 : decode cX6_find 81 = .ok (.isub, 1) := by decide +kernel
theorem dX6_find_82 : decode cX6_find 82 = .ok (.ireturn, 1) := by decide +kernel
theorem dX6_find_83 : decode cX6_find 83 = .ok (.aload_n 0, 1) := by decide +kernel
theorem dX6_find_84 : decode cX6_find 84 = .ok (.getfield 14, 3) := by decide +kernel
theorem dX6_find_87 : decode cX6_find 87 = .ok (.aload_n 0, 1) := by decide +kernel
theorem dX6_find_88 : decode cX6_find 88 = .ok (.getfield 23, 3) := by decide +kernel
theorem dX6_find_91 : decode cX6_find 91 = .ok (.iload 4, 2) := by decide +kernel
theorem dX6_find_93 : decode cX6_find 93 = .ok (.invokevirtual 40, 3) := by decide +kernel
theorem dX6_find_96 : decode cX6_find 96 = .ok (.aload_n 0, 1) := by decide +kernel
theorem dX6_find_97 : decode cX6_find 97 = .ok (.getfield 20, 3) := by decide +kernel
theorem dX6_find_100 : decode cX6_find 100 = .ok (.aload_n 0, 1) := by decide +kernel
theorem dX6_find_101 : decode cX6_find 101 = .ok (.getfield 23, 3) := by decide +kernel
theorem dX6_find_104 : decode cX6_find 104 = .ok (.iload_n 3, 1) := by decide +kernel
theorem dX6_find_105 : decode cX6_find 105 = .ok (.invokevirtual 40, 3) := by decide +kernel
theorem dX6_find_108 : decode cX6_find 108 = .ok (.aload_n 0, 1) := by decide +kernel
theorem dX6_find_109 : decode cX6_find 109 = .ok (.dup, 1) := by decide +kernel
theorem dX6_find_110 : decode cX6_find 110 = .ok (.getfield 23, 3) := by decide +kernel
theorem dX6_find_113 : decode cX6_find 113 = .ok (.iconst 1, 1) := by decide +kernel
theorem dX6_find_114 : decode cX6_find 114 = .ok (.iadd, 1) := by decide +kernel
theorem dX6_find_115 : decode cX6_find 115 = .ok (.putfield 23, 3) := by decide +kernel
theorem dX6_find_118 : decode cX6_find 118 = .ok (.iload 4, 2) := by decide +kernel
theorem dX6_find_120 : decode cX6_find 120 = .ok (.iconst 1, 1) := by decide +kernel
theorem dX6_find_121 : decode cX6_find 121 = .ok (.iadd, 1) := by decide +kernel
theorem dX6_find_122 : decode cX6_find 122 = .ok (.iload_n 3, 1) := by decide +kernel
theorem dX6_find_123 : decode cX6_find 123 = .ok (.invokestatic 44, 3) := by decide +kernel
theorem dX6_find_126 : decode cX6_find 126 = .ok (.istore 4, 2) := by decide +kernel
theorem dX6_find_128 : decode cX6_find 128 = .ok (.goto (-118), 3) := by decide +kernel
theorem dX6_find_131 : decode cX6_find 131 = .ok (.aload_n 0, 1) := by decide +kernel
theorem dX6_find_132 : decode cX6_find 132 = .ok (.getfield 23, 3) := by decide +kernel
theorem dX6_find_135 : decode cX6_find 135 = .ok (.iload_n 2, 1) := by decide +kernel
theorem dX6_find_136 : decode cX6_find 136 = .ok (.if_icmp .ge 13, 3) := by decide +kernel
theorem dX6_find_139 : decode cX6_find 139 = .ok (.bipush (-10), 2) := by decide +kernel
theorem dX6_find_141 : decode cX6_find 141 = .ok (.aload_n 1, 1) := by decide +kernel
theorem dX6_find_142 : decode cX6_find 142 = .ok (.getfield 27, 3) := by decide +kernel
theorem dX6_find_145 : decode cX6_find 145 = .ok (.isub, 1) := by decide +kernel
theorem dX6_find_146 : decode cX6_find 146 = .ok (.goto 4, 3) := by decide +kernel
theorem dX6_find_149 : decode cX6_find 149 = .ok (.iconst 0, 1) := by decide +kernel
theorem dX6_find_150 : decode cX6_find 150 = .ok (.ireturn, 1) := by decide +kernel
theorem dX6_textEnd_0 : decode cX6_textEnd 0 = .ok (.iload_n 1, 1) := by decide +kernel
theorem dX6_textEnd_1 : decode cX6_textEnd 1 = .ok (.istore_n 2, 1) := by decide +kernel
theorem dX6_textEnd_2 : decode cX6_textEnd 2 = .ok (.iload_n 2, 1) := by decide +kernel
theorem dX6_textEnd_3 : decode cX6_textEnd 3 = .ok (.aload_n 0, 1) := by decide +kernel
theorem dX6_textEnd_4 : decode cX6_textEnd 4 = .ok (.getfield 27, 3) := by decide +kernel
theorem dX6_textEnd_7 : decode cX6_textEnd 7 = .ok (.if_icmp .ge 20, 3) := by decide +kernel
theorem dX6_textEnd_10 : decode cX6_textEnd 10 = .ok (.aload_n 0, 1) := by decide +kernel
theorem dX6_textEnd_11 : decode cX6_textEnd 11 = .ok (.iload_n 2, 1) := by decide +kernel
theorem dX6_textEnd_12 : decode cX6_textEnd 12 = .ok (.invokevirtual 32, 3) := by decide +kernel
theorem dX6_textEnd_15 : decode cX6_textEnd 15 = .ok (.invokestatic 50, 3) := by decide +kernel
theorem dX6_textEnd_18 : decode cX6_textEnd 18 = .ok (.ifCond .eq 9, 3) := by decide +kernel
theorem dX6_textEnd_21 : decode cX6_textEnd 21 = .ok (.iinc 2 1, 3) := by decide +kernel
theorem dX6_textEnd_24 : decode cX6_textEnd 24 = .ok (.goto (-22), 3) := by decide +kernel
theorem dX6_textEnd_27 : decode cX6_textEnd 27 = .ok (.iload_n 2, 1) := by decide +kernel
theorem dX6_textEnd_28 : decode cX6_textEnd 28 = .ok (.iload_n 1, 1) := by decide +kernel
theorem dX6_textEnd_29 : decode cX6_textEnd 29 = .ok (.iconst 1, 1) := by decide +kernel
theorem dX6_textEnd_30 : decode cX6_textEnd 30 = .ok (.iadd, 1) := by decide +kernel
theorem dX6_textEnd_31 : decode cX6_textEnd 31 = .ok (.invokestatic 44, 3) := by decide +kernel
theorem dX6_textEnd_34 : decode cX6_textEnd 34 = .ok (.ireturn, 1) := by decide +kernel
theorem dX6_write_0 : decode cX6_write 0 = .ok (.iconst 0, 1) := by decide +kernel
theorem dX6_write_1 : decode cX6_write 1 = .ok (.istore 4, 2) := by decide +kernel
theorem dX6_write_3 : decode cX6_write 3 = .ok (.iload 4, 2) := by decide +kernel
theorem dX6_write_5 : decode cX6_write 5 = .ok (.aload_n 0, 1) := by decide +kernel
theorem dX6_write_6 : decode cX6_write 6 = .ok (.getfield 23, 3) := by decide +kernel
theorem dX6_write_9 : decode cX6_write 9 = .ok (.if_icmp .ge 53, 3) := by decide +kernel
theorem dX6_write_12 : decode cX6_write 12 = .ok (.aload_n 0, 1) := by decide +kernel
theorem dX6_write_13 : decode cX6_write 13 = .ok (.getfield 14, 3) := by decide +kernel
theorem dX6_write_16 : decode cX6_write 16 = .ok (.iload 4, 2) := by decide +kernel
theorem dX6_write_18 : decode cX6_write 18 = .ok (.invokevirtual 54, 3) := by decide +kernel
theorem dX6_write_21 : decode cX6_write 21 = .ok (.istore 5, 2) := by decide +kernel
theorem dX6_write_23 : decode cX6_write 23 = .ok (.iload 5, 2) := by decide +kernel
theorem dX6_write_25 : decode cX6_write 25 = .ok (.aload_n 0, 1) := by decide +kernel
theorem dX6_write_26 : decode cX6_write 26 = .ok (.getfield 20, 3) := by decide +kernel
theorem dX6_write_29 : decode cX6_write 29 = .ok (.iload 4, 2) := by decide +kernel
theorem dX6_write_31 : decode cX6_write 31 = .ok (.invokevirtual 54, 3) := by decide +kernel
theorem dX6_write_34 : decode cX6_write 34 = .ok (.if_icmp .ge 22, 3) := by decide +kernel
theorem dX6_write_37 : decode cX6_write 37 = .ok (.aload_n 2, 1) := by decide +kernel
theorem dX6_write_38 : decode cX6_write 38 = .ok (.iload_n 3, 1) := by decide +kernel
theorem dX6_write_39 : decode cX6_write 39 = .ok (.iload 4, 2) := by decide +kernel
theorem dX6_write_41 : decode cX6_write 41 = .ok (.aload_n 1, 1) := by decide +kernel
theorem dX6_write_42 : decode cX6_write 42 = .ok (.iload 5, 2) := by decide +kernel
theorem dX6_write_44 : decode cX6_write 44 = .ok (.invokevirtual 32, 3) := by decide +kernel
theorem dX6_write_47 : decode cX6_write 47 = .ok (.invokevirtual 57, 3) := by decide +kernel
theorem dX6_write_50 : decode cX6_write 50 = .ok (.iinc 5 1, 3) := by decide +kernel
theorem dX6_write_53 : decode cX6_write 53 = .ok (.goto (-30), 3) := by decide +kernel
theorem dX6_write_56 : decode cX6_write 56 = .ok (.iinc 4 1, 3) := by decide +kernel
theorem dX6_write_59 : decode cX6_write 59 = .ok (.goto (-56), 3) := by decide +kernel
theorem dX6_write_62 : decode cX6_write 62 = .ok (.return_, 1) := by decide +kernel
theorem dX7_init_0 : decode cX7_init 0 = .ok (.aload_n 0, 1) := by decide +kernel
theorem dX7_init_1 : decode cX7_init 1 = .ok (.invokespecial 3, 3) := by decide +kernel
theorem dX7_init_4 : decode cX7_init 4 = .ok (.aload_n 0, 1) := by decide +kernel
theorem dX7_init_5 : decode cX7_init 5 = .ok (.new 9, 3) := by decide +kernel
theorem dX7_init_8 : decode cX7_init 8 = .ok (.dup, 1) := by decide +kernel
theorem dX7_init_9 : decode cX7_init 9 = .ok (.bipush 12, 2) := by decide +kernel
theorem dX7_init_11 : decode cX7_init 11 = .ok (.invokespecial 11, 3) := by decide +kernel
theorem dX7_init_14 : decode cX7_init 14 = .ok (.putfield 14, 3) := by decide +kernel
theorem dX7_init_17 : decode cX7_init 17 = .ok (.aload_n 0, 1) := by decide +kernel
theorem dX7_init_18 : decode cX7_init 18 = .ok (.new 9, 3) := by decide +kernel
theorem dX7_init_21 : decode cX7_init 21 = .ok (.dup, 1) := by decide +kernel
theorem dX7_init_22 : decode cX7_init 22 = .ok (.bipush 12, 2) := by decide +kernel
theorem dX7_init_24 : decode cX7_init 24 = .ok (.invokespecial 11, 3) := by decide +kernel
theorem dX7_init_27 : decode cX7_init 27 = .ok (.putfield 20, 3) := by decide +kernel
theorem dX7_init_30 : decode cX7_init 30 = .ok (.aload_n 0, 1) := by decide +kernel
theorem dX7_init_31 : decode cX7_init 31 = .ok (.new 9, 3) := by decide +kernel
theorem dX7_init_34 : decode cX7_init 34 = .ok (.dup, 1) := by decide +kernel
theorem dX7_init_35 : decode cX7_init 35 = .ok (.bipush 12, 2) := by decide +kernel
theorem dX7_init_37 : decode cX7_init 37 = .ok (.invokespecial 11, 3) := by decide +kernel
theorem dX7_init_40 : decode cX7_init 40 = .ok (.putfield 23, 3) := by decide +kernel
theorem dX7_init_43 : decode cX7_init 43 = .ok (.aload_n 0, 1) := by decide +kernel
theorem dX7_init_44 : decode cX7_init 44 = .ok (.new 9, 3) := by decide +kernel
theorem dX7_init_47 : decode cX7_init 47 = .ok (.dup, 1) := by decide +kernel
theorem dX7_init_48 : decode cX7_init 48 = .ok (.bipush 12, 2) := by decide +kernel
theorem dX7_init_50 : decode cX7_init 50 = .ok (.invokespecial 11, 3) := by decide +kernel
theorem dX7_init_53 : decode cX7_init 53 = .ok (.putfield 26, 3) := by decide +kernel
theorem dX7_init_56 : decode cX7_init 56 = .ok (.aload_n 0, 1) := by decide +kernel
theorem dX7_init_57 : decode cX7_init 57 = .ok (.new 9, 3) := by decide +kernel
theorem dX7_init_60 : decode cX7_init 60 = .ok (.dup, 1) := by decide +kernel
theorem dX7_init_61 : decode cX7_init 61 = .ok (.bipush 12, 2) := by decide +kernel
theorem dX7_init_63 : decode cX7_init 63 = .ok (.invokespecial 11, 3) := by decide +kernel
theorem dX7_init_66 : decode cX7_init 66 = .ok (.putfield 29, 3) := by decide +kernel
theorem dX7_init_69 : decode cX7_init 69 = .ok (.aload_n 0, 1) := by decide +kernel
theorem dX7_init_70 : decode cX7_init 70 = .ok (.new 9, 3) := by decide +kernel
theorem dX7_init_73 : decode cX7_init 73 = .ok (.dup, 1) := by decide +kernel
theorem dX7_init_74 : decode cX7_init 74 = .ok (.bipush 24, 2) := by decide +kernel
theorem dX7_init_76 : decode cX7_init 76 = .ok (.invokespecial 11, 3) := by decide +kernel
theorem dX7_init_79 : decode cX7_init 79 = .ok (.putfield 32, 3) := by decide +kernel
theorem dX7_init_82 : decode cX7_init 82 = .ok (.aload_n 0, 1) := by decide +kernel
theorem dX7_init_83 : decode cX7_init 83 = .ok (.new 9, 3) := by decide +kernel
theorem dX7_init_86 : decode cX7_init 86 = .ok (.dup, 1) := by decide +kernel
theorem dX7_init_87 : decode cX7_init 87 = .ok (.sipush 192, 3) := by decide +kernel
theorem dX7_init_90 : decode cX7_init 90 = .ok (.invokespecial 11, 3) := by decide +kernel
theorem dX7_init_93 : decode cX7_init 93 = .ok (.putfield 35, 3) := by decide +kernel
theorem dX7_init_96 : decode cX7_init 96 = .ok (.return_, 1) := by decide +kernel
theorem dX7_has_0 : decode cX7_has 0 = .ok (.aload_n 0, 1) := by decide +kernel
theorem dX7_has_1 : decode cX7_has 1 = .ok (.getfield 14, 3) := by decide +kernel
theorem dX7_has_4 : decode cX7_has 4 = .ok (.iload_n 1, 1) := by decide +kernel
theorem dX7_has_5 : decode cX7_has 5 = .ok (.invokevirtual 38, 3) := by decide +kernel
theorem dX7_has_8 : decode cX7_has 8 = .ok (.ifCond .le 7, 3) := by decide +kernel
theorem dX7_has_11 : decode cX7_has 11 = .ok (.iconst 1, 1) := by decide +kernel
theorem dX7_has_12 : decode cX7_has 12 = .ok (.goto 4, 3) := by decide +kernel
theorem dX7_has_15 : decode cX7_has 15 = .ok (.iconst 0, 1) := by decide +kernel
theorem dX7_has_16 : decode cX7_has 16 = .ok (.ireturn, 1) := by decide +kernel
theorem dX7_size_0 : decode cX7_size 0 = .ok (.iconst 0, 1) := by decide +kernel
theorem dX7_size_1 : decode cX7_size 1 = .ok (.istore_n 1, 1) := by decide +kernel
theorem dX7_size_2 : decode cX7_size 2 = .ok (.iconst 0, 1) := by decide +kernel
theorem dX7_size_3 : decode cX7_size 3 = .ok (.istore_n 2, 1) := by decide +kernel
theorem dX7_size_4 : decode cX7_size 4 = .ok (.iload_n 2, 1) := by decide +kernel
theorem dX7_size_5 : decode cX7_size 5 = .ok (.bipush 12, 2) := by decide +kernel
theorem dX7_size_7 : decode cX7_size 7 = .ok (.if_icmp .ge 25, 3) := by decide +kernel
theorem dX7_size_10 : decode cX7_size 10 = .ok (.iload_n 1, 1) := by decide +kernel
theorem dX7_size_11 : decode cX7_size 11 = .ok (.aload_n 0, 1) := by decide +kernel
theorem dX7_size_12 : decode cX7_size 12 = .ok (.iload_n 2, 1) := by decide +kernel
theorem dX7_size_13 : decode cX7_size 13 = .ok (.invokevirtual 42, 3) := by decide +kernel
theorem dX7_size_16 : decode cX7_size 16 = .ok (.ifCond .eq 7, 3) := by decide +kernel
theorem dX7_size_19 : decode cX7_size 19 = .ok (.iconst 1, 1) := by decide +kernel
theorem dX7_size_20 : decode cX7_size 20 = .ok (.goto 4, 3) := by decide +kernel
theorem dX7_size_23 : decode cX7_size 23 = .ok (.iconst 0, 1) := by decide +kernel
theorem dX7_size_24 : decode cX7_size 24 = .ok (.iadd, 1) := by decide +kernel
theorem dX7_size_25 : decode cX7_size 25 = .ok (.istore_n 1, 1) := by decide +kernel
theorem dX7_size_26 : decode cX7_size 26 = .ok (.iinc 2 1, 3) := by decide +kernel
theorem dX7_size_29 : decode cX7_size 29 = .ok (.goto (-25), 3) := by decide +kernel
theorem dX7_size_32 : decode cX7_size 32 = .ok (.iload_n 1, 1) := by decide +kernel
theorem dX7_size_33 : decode cX7_size 33 = .ok (.ireturn, 1) := by decide +kernel
theorem dX7_put_0 : decode cX7_put 0 = .ok (.aload_n 0, 1) := by decide +kernel
theorem dX7_put_1 : decode cX7_put 1 = .ok (.getfield 14, 3) := by decide +kernel
theorem dX7_put_4 : decode cX7_put 4 = .ok (.iload_n 1, 1) := by decide +kernel
theorem dX7_put_5 : decode cX7_put 5 = .ok (.iload_n 2, 1) := by decide +kernel
theorem dX7_put_6 : decode cX7_put 6 = .ok (.invokevirtual 46, 3) := by decide +kernel
theorem dX7_put_9 : decode cX7_put 9 = .ok (.aload_n 0, 1) := by decide +kernel
theorem dX7_put_10 : decode cX7_put 10 = .ok (.getfield 20, 3) := by decide +kernel
theorem dX7_put_13 : decode cX7_put 13 = .ok (.iload_n 1, 1) := by decide +kernel
theorem dX7_put_14 : decode cX7_put 14 = .ok (.iload_n 3, 1) := by decide +kernel
theorem dX7_put_15 : decode cX7_put 15 = .ok (.invokevirtual 46, 3) := by decide +kernel
theorem dX7_put_18 : decode cX7_put 18 = .ok (.aload_n 0, 1) := by decide +kernel
theorem dX7_put_19 : decode cX7_put 19 = .ok (.getfield 23, 3) := by decide +kernel
theorem dX7_put_22 : decode cX7_put 22 = .ok (.iload_n 1, 1) := by decide +kernel
theorem dX7_put_23 : decode cX7_put 23 = .ok (.iload 4, 2) := by decide +kernel
theorem dX7_put_25 : decode cX7_put 25 = .ok (.invokevirtual 46, 3) := by decide +kernel
theorem dX7_put_28 : decode cX7_put 28 = .ok (.aload_n 0, 1) := by decide +kernel
theorem dX7_put_29 : decode cX7_put 29 = .ok (.getfield 32, 3) := by decide +kernel
theorem dX7_put_32 : decode cX7_put 32 = .ok (.iconst 2, 1) := by decide +kernel
theorem dX7_put_33 : decode cX7_put 33 = .ok (.iload_n 1, 1) := by decide +kernel
theorem dX7_put_34 : decode cX7_put 34 = .ok (.imul, 1) := by decide +kernel
theorem dX7_put_35 : decode cX7_put 35 = .ok (.iconst 0, 1) := by decide +kernel
theorem dX7_put_36 : decode cX7_put 36 = .ok (.invokevirtual 46, 3) := by decide +kernel
theorem dX7_put_39 : decode cX7_put 39 = .ok (.aload_n 0, 1) := by decide +kernel
theorem dX7_put_40 : decode cX7_put 40 = .ok (.getfield 32, 3) := by decide +kernel
theorem dX7_put_43 : decode cX7_put 43 = .ok (.iconst 2, 1) := by decide +kernel
theorem dX7_put_44 : decode cX7_put 44 = .ok (.iload_n 1, 1) := by decide +kernel
theorem dX7_put_45 : decode cX7_put 45 = .ok (.imul, 1) := by decide +kernel
theorem dX7_put_46 : decode cX7_put 46 = .ok (.iconst 1, 1) := by decide +kernel
theorem dX7_put_47 : decode cX7_put 47 = .ok (.iadd, 1) := by decide +kernel
theorem dX7_put_48 : decode cX7_put 48 = .ok (.iconst 0, 1) := by decide +kernel
theorem dX7_put_49 : decode cX7_put 49 = .ok (.invokevirtual 46, 3) := by decide +kernel
theorem dX7_put_52 : decode cX7_put 52 = .ok (.return_, 1) := by decide +kernel
theorem dX7_appendText_0 : decode cX7_appendText 0 = .ok (.iconst 2, 1) := by decide +kernel
theorem dX7_appendText_1 : decode cX7_appendText 1 = .ok (.iload_n 1, 1) := by decide +kernel
theorem dX7_appendText_2 : decode cX7_appendText 2 = .ok (.imul, 1) := by decide +kernel
theorem dX7_appendText_3 : decode cX7_appendText 3 = .ok (.iload_n 2, 1) := by decide +kernel
theorem dX7_appendText_4 : decode cX7_appendText 4 = .ok (.iadd, 1) := by decide +kernel
theorem dX7_appendText_5 : decode cX7_appendText 5 = .ok (.istore 4, 2) := by decide +kernel
theorem dX7_appendText_7 : decode cX7_appendText 7 = .ok (.aload_n 0, 1) := by decide +kernel
theorem dX7_appendText_8 : decode cX7_appendText 8 = .ok (.getfield 32, 3) := by decide +kernel
theorem dX7_appendText_11 : decode cX7_appendText 11 = .ok (.iload 4, 2) := by decide +kernel
theorem dX7_appendText_13 : decode cX7_appendText 13 = .ok (.invokevirtual 38, 3) := by decide +kernel
theorem dX7_appendText_16 : decode cX7_appendText 16 = .ok (.istore 5, 2) := by decide +kernel
theorem dX7_appendText_18 : decode cX7_appendText 18 = .ok (.iload 5, 2) := by decide +kernel
theorem dX7_appendText_20 : decode cX7_appendText 20 = .ok (.ifCond .lt 39, 3) := by decide +kernel
theorem dX7_appendText_23 : decode cX7_appendText 23 = .ok (.iload 5, 2) := by decide +kernel
theorem dX7_appendText_25 : decode cX7_appendText 25 = .ok (.bipush 8, 2) := by decide +kernel
theorem dX7_appendText_27 : decode cX7_appendText 27 = .ok (.if_icmp .ge 32, 3) := by decide +kernel
theorem dX7_appendText_30 : decode cX7_appendText 30 = .ok (.aload_n 0, 1) := by decide +kernel
theorem dX7_appendText_31 : decode cX7_appendText 31 = .ok (.getfield 35, 3) := by decide +kernel
theorem dX7_appendText_34 : decode cX7_appendText 34 = .ok (.iload 4, 2) := by decide +kernel
theorem dX7_appendText_36 : decode cX7_appendText 36 = .ok (.bipush 8, 2) := by decide +kernel
theorem dX7_appendText_38 : decode cX7_appendText 38 = .ok (.imul, 1) := by decide +kernel
theorem dX7_appendText_39 : decode cX7_appendText 39 = .ok (.iload 5, 2) := by decide +kernel
theorem dX7_appendText_41 : decode cX7_appendText 41 = .ok (.iadd, 1) := by decide +kernel
theorem dX7_appendText_42 : decode cX7_appendText 42 = .ok (.iload_n 3, 1) := by decide +kernel
theorem dX7_appendText_43 : decode cX7_appendText 43 = .ok (.invokevirtual 46, 3) := by decide +kernel
theorem dX7_appendText_46 : decode cX7_appendText 46 = .ok (.aload_n 0, 1) := by decide +kernel
theorem dX7_appendText_47 : decode cX7_appendText 47 = .ok (.getfield 32, 3) := by decide +kernel
theorem dX7_appendText_50 : decode cX7_appendText 50 = .ok (.iload 4, 2) := by decide +kernel
theorem dX7_appendText_52 : decode cX7_appendText 52 = .ok (.iload 5, 2) := by decide +kernel
theorem dX7_appendText_54 : decode cX7_appendText 54 = .ok (.iconst 1, 1) := by decide +kernel
theorem dX7_appendText_55 : decode cX7_appendText 55 = .ok (.iadd, 1) := by decide +kernel
theorem dX7_appendText_56 : decode cX7_appendText 56 = .ok (.invokevirtual 46, 3) := by decide +kernel
theorem dX7_appendText_59 : decode cX7_appendText 59 = .ok (.return_, 1) := by decide +kernel
theorem dX7_hasText_0 : decode cX7_hasText 0 = .ok (.iconst 2, 1) := by decide +kernel
theorem dX7_hasText_1 : decode cX7_hasText 1 = .ok (.iload_n 1, 1) := by decide +kernel
theorem dX7_hasText_2 : decode cX7_hasText 2 = .ok (.imul, 1) := by decide +kernel
theorem dX7_hasText_3 : decode cX7_hasText 3 = .ok (.iload_n 2, 1) := by decide +kernel
theorem dX7_hasText_4 : decode cX7_hasText 4 = .ok (.iadd, 1) := by decide +kernel
theorem dX7_hasText_5 : decode cX7_hasText 5 = .ok (.istore 7, 2) := by decide +kernel
theorem dX7_hasText_7 : decode cX7_hasText 7 = .ok (.aload_n 0, 1) := by decide +kernel
theorem dX7_hasText_8 : decode cX7_hasText 8 = .ok (.getfield 32, 3) := by decide +kernel
theorem dX7_hasText_11 : decode cX7_hasText 11 = .ok (.iload 7, 2) := by decide +kernel
theorem dX7_hasText_13 : decode cX7_hasText 13 = .ok (.invokevirtual 38, 3) := by decide +kernel
theorem dX7_hasText_16 : decode cX7_hasText 16 = .ok (.iload 6, 2) := by decide +kernel
theorem dX7_hasText_18 : decode cX7_hasText 18 = .ok (.if_icmp .eq 5, 3) := by decide +kernel
theorem dX7_hasText_21 : decode cX7_hasText 21 = .ok (.iconst 0, 1) := by decide +kernel
theorem dX7_hasText_22 : decode cX7_hasText 22 = .ok (.ireturn, 1) := by decide +kernel
theorem dX7_hasText_23 : decode cX7_hasText 23 = .ok (.iconst 0, 1) := by decide +kernel
theorem dX7_hasText_24 : decode cX7_hasText 24 = .ok (.istore 8, 2) := by decide +kernel
theorem dX7_hasText_26 : decode cX7_hasText 26 = .ok (.iload 8, 2) := by decide +kernel
theorem dX7_hasText_28 : decode cX7_hasText 28 = .ok (.iload 6, 2) := by decide +kernel
theorem dX7_hasText_30 : decode cX7_hasText 30 = .ok (.if_icmp .ge 40, 3) := by decide +kernel
theorem dX7_hasText_33 : decode cX7_hasText 33 = .ok (.aload_n 0, 1) := by decide +kernel
theorem dX7_hasText_34 : decode cX7_hasText 34 = .ok (.getfield 35, 3) := by decide +kernel
theorem dX7_hasText_37 : decode cX7_hasText 37 = .ok (.iload 7, 2) := by decide +kernel
theorem dX7_hasText_39 : decode cX7_hasText 39 = .ok (.bipush 8, 2) := by decide +kernel
theorem dX7_hasText_41 : decode cX7_hasText 41 = .ok (.imul, 1) := by decide +kernel
theorem dX7_hasText_42 : decode cX7_hasText 42 = .ok (.iload 8, 2) := by decide +kernel
theorem dX7_hasText_44 : decode cX7_hasText 44 = .ok (.iadd, 1) := by decide +kernel
theorem dX7_hasText_45 : decode cX7_hasText 45 = .ok (.invokevirtual 38, 3) := by decide +kernel
theorem dX7_hasText_48 : decode cX7_hasText 48 = .ok (.aload_n 3, 1) := by decide +kernel
theorem dX7_hasText_49 : decode cX7_hasText 49 = .ok (.iload 4, 2) := by decide +kernel
theorem dX7_hasText_51 : decode cX7_hasText 51 = .ok (.iload 5, 2) := by decide +kernel
theorem dX7_hasText_53 : decode cX7_hasText 53 = .ok (.iload 8, 2) := by decide +kernel
theorem dX7_hasText_55 : decode cX7_hasText 55 = .ok (.iadd, 1) := by decide +kernel
theorem dX7_hasText_56 : decode cX7_hasText 56 = .ok (.invokevirtual 50, 3) := by decide +kernel
theorem dX7_hasText_59 : decode cX7_hasText 59 = .ok (.if_icmp .eq 5, 3) := by decide +kernel
theorem dX7_hasText_62 : decode cX7_hasText 62 = .ok (.iconst 0, 1) := by decide +kernel
theorem dX7_hasText_63 : decode cX7_hasText 63 = .ok (.ireturn, 1) := by decide +kernel
theorem dX7_hasText_64 : decode cX7_hasText 64 = .ok (.iinc 8 1, 3) := by decide +kernel
theorem dX7_hasText_67 : decode cX7_hasText 67 = .ok (.goto (-41), 3) := by decide +kernel
theorem dX7_hasText_70 : decode cX7_hasText 70 = .ok (.iconst 1, 1) := by decide +kernel
theorem dX7_hasText_71 : decode cX7_hasText 71 = .ok (.ireturn, 1) := by decide +kernel
theorem dX7_best_0 : decode cX7_best 0 = .ok (.iconst (-1), 1) := by decide +kernel
theorem dX7_best_1 : decode cX7_best 1 = .ok (.istore_n 3, 1) := by decide +kernel
theorem dX7_best_2 : decode cX7_best 2 = .ok (.iconst (-1), 1) := by decide +kernel
theorem dX7_best_3 : decode cX7_best 3 = .ok (.istore 4, 2) := by decide +kernel
theorem dX7_best_5 : decode cX7_best 5 = .ok (.iconst 0, 1) := by decide +kernel
theorem dX7_best_6 : decode cX7_best 6 = .ok (.istore 5, 2) := by decide +kernel
theorem dX7_best_8 : decode cX7_best 8 = .ok (.iload 5, 2) := by decide +kernel
theorem dX7_best_10 : decode cX7_best 10 = .ok (.bipush 12, 2) := by decide +kernel
theorem dX7_best_12 : decode cX7_best 12 = .ok (.if_icmp .ge 71, 3) := by decide +kernel
theorem dX7_best_15 : decode cX7_best 15 = .ok (.iload_n 2, 1) := by decide +kernel
theorem dX7_best_16 : decode cX7_best 16 = .ok (.iload 5, 2) := by decide +kernel
theorem dX7_best_18 : decode cX7_best 18 = .ok (.ishr, 1) := by decide +kernel
theorem dX7_best_19 : decode cX7_best 19 = .ok (.iconst 1, 1) := by decide +kernel
theorem dX7_best_20 : decode cX7_best 20 = .ok (.iand, 1) := by decide +kernel
theorem dX7_best_21 : decode cX7_best 21 = .ok (.ifCond .eq 20, 3) := by decide +kernel
theorem dX7_best_24 : decode cX7_best 24 = .ok (.aload_n 0, 1) := by decide +kernel
theorem dX7_best_25 : decode cX7_best 25 = .ok (.getfield 14, 3) := by decide +kernel
theorem dX7_best_28 : decode cX7_best 28 = .ok (.iload 5, 2) := by decide +kernel
theorem dX7_best_30 : decode cX7_best 30 = .ok (.invokevirtual 38, 3) := by decide +kernel
theorem dX7_best_33 : decode cX7_best 33 = .ok (.iload_n 1, 1) := by decide +kernel
theorem dX7_best_34 : decode cX7_best 34 = .ok (.if_icmp .ne 7, 3) := by decide +kernel
theorem dX7_best_37 : decode cX7_best 37 = .ok (.iconst 1, 1) := by decide +kernel
theorem dX7_best_38 : decode cX7_best 38 = .ok (.goto 4, 3) := by decide +kernel
theorem dX7_best_41 : decode cX7_best 41 = .ok (.iconst 0, 1) := by decide +kernel
theorem dX7_best_42 : decode cX7_best 42 = .ok (.istore 6, 2) := by decide +kernel
theorem dX7_best_44 : decode cX7_best 44 = .ok (.iload 6, 2) := by decide +kernel
theorem dX7_best_46 : decode cX7_best 46 = .ok (.ifCond .eq 31, 3) := by decide +kernel
theorem dX7_best_49 : decode cX7_best 49 = .ok (.aload_n 0, 1) := by decide +kernel
theorem dX7_best_50 : decode cX7_best 50 = .ok (.getfield 20, 3) := by decide +kernel
theorem dX7_best_53 : decode cX7_best 53 = .ok (.iload 5, 2) := by decide +kernel
theorem dX7_best_55 : decode cX7_best 55 = .ok (.invokevirtual 38, 3) := by decide +kernel
theorem dX7_best_58 : decode cX7_best 58 = .ok (.iload 4, 2) := by decide +kernel
theorem dX7_best_60 : decode cX7_best 60 = .ok (.if_icmp .le 17, 3) := by decide +kernel
theorem dX7_best_63 : decode cX7_best 63 = .ok (.iload 5, 2) := by decide +kernel
theorem dX7_best_65 : decode cX7_best 65 = .ok (.istore_n 3, 1) := by decide +kernel
theorem dX7_best_66 : decode cX7_best 66 = .ok (.aload_n 0, 1) := by decide +kernel
theorem dX7_best_67 : decode cX7_best 67 = .ok (.getfield 20, 3) := by decide +kernel
theorem dX7_best_70 : decode cX7_best 70 = .ok (.iload 5, 2) := by decide +kernel
theorem dX7_best_72 : decode cX7_best 72 = .ok (.invokevirtual 38, 3) := by decide +kernel
theorem dX7_best_75 : decode cX7_best 75 = .ok (.istore 4, 2) := by decide +kernel
theorem dX7_best_77 : decode cX7_best 77 = .ok (.iinc 5 1, 3) := by decide +kernel
theorem dX7_best_80 : decode cX7_best 80 = .ok (.goto (-72), 3) := by decide +kernel
theorem dX7_best_83 : decode cX7_best 83 = .ok (.iload_n 3, 1) := by decide +kernel
theorem dX7_best_84 : decode cX7_best 84 = .ok (.ireturn, 1) := by decide +kernel
theorem dX7_beats_0 : decode cX7_beats 0 = .ok (.iload_n 1, 1) := by decide +kernel
theorem dX7_beats_1 : decode cX7_beats 1 = .ok (.iconst (-1), 1) := by decide +kernel
theorem dX7_beats_2 : decode cX7_beats 2 = .ok (.if_icmp .eq 31, 3) := by decide +kernel
theorem dX7_beats_5 : decode cX7_beats 5 = .ok (.iload_n 2, 1) := by decide +kernel
theorem dX7_beats_6 : decode cX7_beats 6 = .ok (.iconst (-1), 1) := by decide +kernel
theorem dX7_beats_7 : decode cX7_beats 7 = .ok (.if_icmp .eq 22, 3) := by decide +kernel
theorem dX7_beats_10 : decode cX7_beats 10 = .ok (.aload_n 0, 1) := by decide +kernel
theorem dX7_beats_11 : decode cX7_beats 11 = .ok (.getfield 20, 3) := by decide +kernel
theorem dX7_beats_14 : decode cX7_beats 14 = .ok (.iload_n 1, 1) := by decide +kernel
theorem dX7_beats_15 : decode cX7_beats 15 = .ok (.invokevirtual 38, 3) := by decide +kernel
theorem dX7_beats_18 : decode cX7_beats 18 = .ok (.aload_n 0, 1) := by decide +kernel
theorem dX7_beats_19 : decode cX7_beats 19 = .ok (.getfield 20, 3) := by decide +kernel
theorem dX7_beats_22 : decode cX7_beats 22 = .ok (.iload_n 2, 1) := by decide +kernel
theorem dX7_beats_23 : decode cX7_beats 23 = .ok (.invokevirtual 38, 3) := by decide +kernel
theorem dX7_beats_26 : decode cX7_beats 26 = .ok (.if_icmp .le 7, 3) := by decide +kernel
theorem dX7_beats_29 : decode cX7_beats 29 = .ok (.iconst 1, 1) := by decide +kernel
theorem dX7_beats_30 : decode cX7_beats 30 = .ok (.goto 4, 3) := by decide +kernel
theorem dX7_beats_33 : decode cX7_beats 33 = .ok (.iconst 0, 1) := by decide +kernel
theorem dX7_beats_34 : decode cX7_beats 34 = .ok (.ireturn, 1) := by decide +kernel
theorem dX7_mixRule_0 : decode cX7_mixRule 0 = .ok (.aload_n 0, 1) := by decide +kernel
theorem dX7_mixRule_1 : decode cX7_mixRule 1 = .ok (.getfield 14, 3) := by decide +kernel
theorem dX7_mixRule_4 : decode cX7_mixRule 4 = .ok (.iload_n 3, 1) := by decide +kernel
theorem dX7_mixRule_5 : decode cX7_mixRule 5 = .ok (.invokevirtual 38, 3) := by decide +kernel
theorem dX7_mixRule_8 : decode cX7_mixRule 8 = .ok (.istore 4, 2) := by decide +kernel
theorem dX7_mixRule_10 : decode cX7_mixRule 10 = .ok (.lload_n 1, 1) := by decide +kernel
theorem dX7_mixRule_11 : decode cX7_mixRule 11 = .ok (.iload 4, 2) := by decide +kernel
theorem dX7_mixRule_13 : decode cX7_mixRule 13 = .ok (.invokestatic 56, 3) := by decide +kernel
theorem dX7_mixRule_16 : decode cX7_mixRule 16 = .ok (.lstore 5, 2) := by decide +kernel
theorem dX7_mixRule_18 : decode cX7_mixRule 18 = .ok (.aload_n 0, 1) := by decide +kernel
theorem dX7_mixRule_19 : decode cX7_mixRule 19 = .ok (.iload_n 3, 1) := by decide +kernel
theorem dX7_mixRule_20 : decode cX7_mixRule 20 = .ok (.invokevirtual 42, 3) := by decide +kernel
theorem dX7_mixRule_23 : decode cX7_mixRule 23 = .ok (.ifCond .ne 6, 3) := by decide +kernel
theorem dX7_mixRule_26 : decode cX7_mixRule 26 = .ok (.lload 5, 2) := by decide +kernel
theorem dX7_mixRule_28 : decode cX7_mixRule 28 = .ok (.lreturn, 1) := by decide +kernel
theorem dX7_mixRule_29 : decode cX7_mixRule 29 = .ok (.lload 5, 2) := by decide +kernel
theorem dX7_mixRule_31 : decode cX7_mixRule 31 = .ok (.aload_n 0, 1) := by decide +kernel
theorem dX7_mixRule_32 : decode cX7_mixRule 32 = .ok (.getfield 20, 3) := by decide +kernel
theorem dX7_mixRule_35 : decode cX7_mixRule 35 = .ok (.iload_n 3, 1) := by decide +kernel
theorem dX7_mixRule_36 : decode cX7_mixRule 36 = .ok (.invokevirtual 38, 3) := by decide +kernel
theorem dX7_mixRule_39 : decode cX7_mixRule 39 = .ok (.invokestatic 56, 3) := by decide +kernel
theorem dX7_mixRule_42 : decode cX7_mixRule 42 = .ok (.aload_n 0, 1) := by decide +kernel
theorem dX7_mixRule_43 : decode cX7_mixRule 43 = .ok (.getfield 23, 3) := by decide +kernel
theorem dX7_mixRule_46 : decode cX7_mixRule 46 = .ok (.iload_n 3, 1) := by decide +kernel
theorem dX7_mixRule_47 : decode cX7_mixRule 47 = .ok (.invokevirtual 38, 3) := by decide +kernel
theorem dX7_mixRule_50 : decode cX7_mixRule 50 = .ok (.invokestatic 56, 3) := by decide +kernel
theorem dX7_mixRule_53 : decode cX7_mixRule 53 = .ok (.lstore 5, 2) := by decide +kernel
theorem dX7_mixRule_55 : decode cX7_mixRule 55 = .ok (.iload 4, 2) := by decide +kernel
theorem dX7_mixRule_57 : decode cX7_mixRule 57 = .ok (.iconst 1, 1) := by decide +kernel
theorem dX7_mixRule_58 : decode cX7_mixRule 58 = .ok (.if_icmp .eq 13, 3) := by decide +kernel
theorem dX7_mixRule_61 : decode cX7_mixRule 61 = .ok (.aload_n 0, 1) := by decide +kernel
theorem dX7_mixRule_62 : decode cX7_mixRule 62 = .ok (.lload 5, 2) := by decide +kernel
theorem dX7_mixRule_64 : decode cX7_mixRule 64 = .ok (.iconst 2, 1) := by decide +kernel
theorem dX7_mixRule_65 : decode cX7_mixRule 65 = .ok (.iload_n 3, 1) := by decide +kernel
theorem dX7_mixRule_66 : decode cX7_mixRule 66 = .ok (.imul, 1) := by decide +kernel
theorem dX7_mixRule_67 : decode cX7_mixRule 67 = .ok (.invokevirtual 60, 3) := by decide +kernel
theorem dX7_mixRule_70 : decode cX7_mixRule 70 = .ok (.lreturn, 1) := by decide +kernel
theorem dX7_mixRule_71 : decode cX7_mixRule 71 = .ok (.lload 5, 2) := by decide +kernel
theorem dX7_mixRule_73 : decode cX7_mixRule 73 = .ok (.aload_n 0, 1) := by decide +kernel
theorem dX7_mixRule_74 : decode cX7_mixRule 74 = .ok (.getfield 26, 3) := by decide +kernel
theorem dX7_mixRule_77 : decode cX7_mixRule 77 = .ok (.iload_n 3, 1) := by decide +kernel
theorem dX7_mixRule_78 : decode cX7_mixRule 78 = .ok (.invokevirtual 38, 3) := by decide +kernel
theorem dX7_mixRule_81 : decode cX7_mixRule 81 = .ok (.invokestatic 56, 3) := by decide +kernel
theorem dX7_mixRule_84 : decode cX7_mixRule 84 = .ok (.aload_n 0, 1) := by decide +kernel
theorem dX7_mixRule_85 : decode cX7_mixRule 85 = .ok (.getfield 29, 3) := by decide +kernel
theorem dX7_mixRule_88 : decode cX7_mixRule 88 = .ok (.iload_n 3, 1) := by decide +kernel
theorem dX7_mixRule_89 : decode cX7_mixRule 89 = .ok (.invokevirtual 38, 3) := by decide +kernel
theorem dX7_mixRule_92 : decode cX7_mixRule 92 = .ok (.invokestatic 56, 3) := by decide +kernel
theorem dX7_mixRule_95 : decode cX7_mixRule 95 = .ok (.lstore 5, 2) := by decide +kernel
theorem dX7_mixRule_97 : decode cX7_mixRule 97 = .ok (.aload_n 0, 1) := by decide +kernel
theorem dX7_mixRule_98 : decode cX7_mixRule 98 = .ok (.aload_n 0, 1) := by decide +kernel
theorem dX7_mixRule_99 : decode cX7_mixRule 99 = .ok (.lload 5, 2) := by decide +kernel
theorem dX7_mixRule_101 : decode cX7_mixRule 101 = .ok (.iconst 2, 1) := by decide +kernel
theorem dX7_mixRule_102 : decode cX7_mixRule 102 = .ok (.iload_n 3, 1) := by decide +kernel
theorem dX7_mixRule_103 : decode cX7_mixRule 103 = .ok (.imul, 1) := by decide +kernel
theorem dX7_mixRule_104 : decode cX7_mixRule 104 = .ok (.invokevirtual 60, 3) := by decide +kernel
theorem dX7_mixRule_107 : decode cX7_mixRule 107 = .ok (.bipush 32, 2) := by decide +kernel
theorem dX7_mixRule_109 : decode cX7_mixRule 109 = .ok (.invokestatic 56, 3) := by decide +kernel
theorem dX7_mixRule_112 : decode cX7_mixRule 112 = .ok (.iconst 2, 1) := by decide +kernel
theorem dX7_mixRule_113 : decode cX7_mixRule 113 = .ok (.iload_n 3, 1) := by decide +kernel
theorem dX7_mixRule_114 : decode cX7_mixRule 114 = .ok (.imul, 1) := by decide +kernel
theorem dX7_mixRule_115 : decode cX7_mixRule 115 = .ok (.iconst 1, 1) := by decide +kernel
theorem dX7_mixRule_116 : decode cX7_mixRule 116 = .ok (.iadd, 1) := by decide +kernel
theorem dX7_mixRule_117 : decode cX7_mixRule 117 = .ok (.invokevirtual 60, 3) := by decide +kernel
theorem dX7_mixRule_120 : decode cX7_mixRule 120 = .ok (.lreturn, 1) := by decide +kernel
theorem dX7_mixText_0 : decode cX7_mixText 0 = .ok (.lload_n 1, 1) := by decide +kernel
theorem dX7_mixText_1 : decode cX7_mixText 1 = .ok (.lstore 4, 2) := by decide +kernel
theorem dX7_mixText_3 : decode cX7_mixText 3 = .ok (.iconst 0, 1) := by decide +kernel
theorem dX7_mixText_4 : decode cX7_mixText 4 = .ok (.istore 6, 2) := by decide +kernel
theorem dX7_mixText_6 : decode cX7_mixText 6 = .ok (.iload 6, 2) := by decide +kernel
theorem dX7_mixText_8 : decode cX7_mixText 8 = .ok (.aload_n 0, 1) := by decide +kernel
theorem dX7_mixText_9 : decode cX7_mixText 9 = .ok (.getfield 32, 3) := by decide +kernel
theorem dX7_mixText_12 : decode cX7_mixText 12 = .ok (.iload_n 3, 1) := by decide +kernel
theorem dX7_mixText_13 : decode cX7_mixText 13 = .ok (.invokevirtual 38, 3) := by decide +kernel
theorem dX7_mixText_16 : decode cX7_mixText 16 = .ok (.if_icmp .ge 30, 3) := by decide +kernel
theorem dX7_mixText_19 : decode cX7_mixText 19 = .ok (.lload 4, 2) := by decide +kernel
theorem dX7_mixText_21 : decode cX7_mixText 21 = .ok (.aload_n 0, 1) := by decide +kernel
theorem dX7_mixText_22 : decode cX7_mixText 22 = .ok (.getfield 35, 3) := by decide +kernel
theorem dX7_mixText_25 : decode cX7_mixText 25 = .ok (.iload_n 3, 1) := by decide +kernel
theorem dX7_mixText_26 : decode cX7_mixText 26 = .ok (.bipush 8, 2) := by decide +kernel
theorem dX7_mixText_28 : decode cX7_mixText 28 = .ok (.imul, 1) := by decide +kernel
theorem dX7_mixText_29 : decode cX7_mixText 29 = .ok (.iload 6, 2) := by decide +kernel
theorem dX7_mixText_31 : decode cX7_mixText 31 = .ok (.iadd, 1) := by decide +kernel
theorem dX7_mixText_32 : decode cX7_mixText 32 = .ok (.invokevirtual 38, 3) := by decide +kernel
theorem dX7_mixText_35 : decode cX7_mixText 35 = .ok (.invokestatic 56, 3) := by decide +kernel
theorem dX7_mixText_38 : decode cX7_mixText 38 = .ok (.lstore 4, 2) := by decide +kernel
theorem dX7_mixText_40 : decode cX7_mixText 40 = .ok (.iinc 6 1, 3) := by decide +kernel
theorem dX7_mixText_43 : decode cX7_mixText 43 = .ok (.goto (-37), 3) := by decide +kernel
theorem dX7_mixText_46 : decode cX7_mixText 46 = .ok (.lload 4, 2) := by decide +kernel
theorem dX7_mixText_48 : decode cX7_mixText 48 = .ok (.lreturn, 1) := by decide +kernel
theorem dX7_copy_0 : decode cX7_copy 0 = .ok (.aload_n 0, 1) := by decide +kernel
theorem dX7_copy_1 : decode cX7_copy 1 = .ok (.getfield 14, 3) := by decide +kernel
theorem dX7_copy_4 : decode cX7_copy 4 = .ok (.aload_n 1, 1) := by decide +kernel
theorem dX7_copy_5 : decode cX7_copy 5 = .ok (.getfield 14, 3) := by decide +kernel
theorem dX7_copy_8 : decode cX7_copy 8 = .ok (.invokevirtual 63, 3) := by decide +kernel
theorem dX7_copy_11 : decode cX7_copy 11 = .ok (.aload_n 0, 1) := by decide +kernel
theorem dX7_copy_12 : decode cX7_copy 12 = .ok (.getfield 20, 3) := by decide +kernel
theorem dX7_copy_15 : decode cX7_copy 15 = .ok (.aload_n 1, 1) := by decide +kernel
theorem dX7_copy_16 : decode cX7_copy 16 = .ok (.getfield 20, 3) := by decide +kernel
theorem dX7_copy_19 : decode cX7_copy 19 = .ok (.invokevirtual 63, 3) := by decide +kernel
theorem dX7_copy_22 : decode cX7_copy 22 = .ok (.aload_n 0, 1) := by decide +kernel
theorem dX7_copy_23 : decode cX7_copy 23 = .ok (.getfield 23, 3) := by decide +kernel
theorem dX7_copy_26 : decode cX7_copy 26 = .ok (.aload_n 1, 1) := by decide +kernel
theorem dX7_copy_27 : decode cX7_copy 27 = .ok (.getfield 23, 3) := by decide +kernel
theorem dX7_copy_30 : decode cX7_copy 30 = .ok (.invokevirtual 63, 3) := by decide +kernel
theorem dX7_copy_33 : decode cX7_copy 33 = .ok (.aload_n 0, 1) := by decide +kernel
theorem dX7_copy_34 : decode cX7_copy 34 = .ok (.getfield 26, 3) := by decide +kernel
theorem dX7_copy_37 : decode cX7_copy 37 = .ok (.aload_n 1, 1) := by decide +kernel
theorem dX7_copy_38 : decode cX7_copy 38 = .ok (.getfield 26, 3) := by decide +kernel
theorem dX7_copy_41 : decode cX7_copy 41 = .ok (.invokevirtual 63, 3) := by decide +kernel
theorem dX7_copy_44 : decode cX7_copy 44 = .ok (.aload_n 0, 1) := by decide +kernel
theorem dX7_copy_45 : decode cX7_copy 45 = .ok (.getfield 29, 3) := by decide +kernel
theorem dX7_copy_48 : decode cX7_copy 48 = .ok (.aload_n 1, 1) := by decide +kernel
theorem dX7_copy_49 : decode cX7_copy 49 = .ok (.getfield 29, 3) := by decide +kernel
theorem dX7_copy_52 : decode cX7_copy 52 = .ok (.invokevirtual 63, 3) := by decide +kernel
theorem dX7_copy_55 : decode cX7_copy 55 = .ok (.aload_n 0, 1) := by decide +kernel
theorem dX7_copy_56 : decode cX7_copy 56 = .ok (.getfield 32, 3) := by decide +kernel
theorem dX7_copy_59 : decode cX7_copy 59 = .ok (.aload_n 1, 1) := by decide +kernel
theorem dX7_copy_60 : decode cX7_copy 60 = .ok (.getfield 32, 3) := by decide +kernel
theorem dX7_copy_63 : decode cX7_copy 63 = .ok (.invokevirtual 63, 3) := by decide +kernel
theorem dX7_copy_66 : decode cX7_copy 66 = .ok (.aload_n 0, 1) := by decide +kernel
theorem dX7_copy_67 : decode cX7_copy 67 = .ok (.getfield 35, 3) := by decide +kernel
theorem dX7_copy_70 : decode cX7_copy 70 = .ok (.aload_n 1, 1) := by decide +kernel
theorem dX7_copy_71 : decode cX7_copy 71 = .ok (.getfield 35, 3) := by decide +kernel
theorem dX7_copy_74 : decode cX7_copy 74 = .ok (.invokevirtual 63, 3) := by decide +kernel
theorem dX7_copy_77 : decode cX7_copy 77 = .ok (.return_, 1) := by decide +kernel
theorem dX8_init_0 : decode cX8_init 0 = .ok (.aload_n 0, 1) := by decide +kernel
theorem dX8_init_1 : decode cX8_init 1 = .ok (.invokespecial 1, 3) := by decide +kernel
theorem dX8_init_4 : decode cX8_init 4 = .ok (.aload_n 0, 1) := by decide +kernel
theorem dX8_init_5 : decode cX8_init 5 = .ok (.new 7, 3) := by decide +kernel
theorem dX8_init_8 : decode cX8_init 8 = .ok (.dup, 1) := by decide +kernel
theorem dX8_init_9 : decode cX8_init 9 = .ok (.invokespecial 9, 3) := by decide +kernel
theorem dX8_init_12 : decode cX8_init 12 = .ok (.putfield 10, 3) := by decide +kernel
theorem dX8_init_15 : decode cX8_init 15 = .ok (.aload_n 0, 1) := by decide +kernel
theorem dX8_init_16 : decode cX8_init 16 = .ok (.new 16, 3) := by decide +kernel
theorem dX8_init_19 : decode cX8_init 19 = .ok (.dup, 1) := by decide +kernel
theorem dX8_init_20 : decode cX8_init 20 = .ok (.invokespecial 18, 3) := by decide +kernel
theorem dX8_init_23 : decode cX8_init 23 = .ok (.putfield 19, 3) := by decide +kernel
theorem dX8_init_26 : decode cX8_init 26 = .ok (.aload_n 0, 1) := by decide +kernel
theorem dX8_init_27 : decode cX8_init 27 = .ok (.iconst 4, 1) := by decide +kernel
theorem dX8_init_28 : decode cX8_init 28 = .ok (.putfield 23, 3) := by decide +kernel
theorem dX8_init_31 : decode cX8_init 31 = .ok (.aload_n 0, 1) := by decide +kernel
theorem dX8_init_32 : decode cX8_init 32 = .ok (.iconst 0, 1) := by decide +kernel
theorem dX8_init_33 : decode cX8_init 33 = .ok (.putfield 27, 3) := by decide +kernel
theorem dX8_init_36 : decode cX8_init 36 = .ok (.aload_n 0, 1) := by decide +kernel
theorem dX8_init_37 : decode cX8_init 37 = .ok (.bipush 35, 2) := by decide +kernel
theorem dX8_init_39 : decode cX8_init 39 = .ok (.putfield 30, 3) := by decide +kernel
theorem dX8_init_42 : decode cX8_init 42 = .ok (.return_, 1) := by decide +kernel
theorem dX8_copy_0 : decode cX8_copy 0 = .ok (.aload_n 0, 1) := by decide +kernel
theorem dX8_copy_1 : decode cX8_copy 1 = .ok (.getfield 10, 3) := by decide +kernel
theorem dX8_copy_4 : decode cX8_copy 4 = .ok (.aload_n 1, 1) := by decide +kernel
theorem dX8_copy_5 : decode cX8_copy 5 = .ok (.getfield 10, 3) := by decide +kernel
theorem dX8_copy_8 : decode cX8_copy 8 = .ok (.invokevirtual 33, 3) := by decide +kernel
theorem dX8_copy_11 : decode cX8_copy 11 = .ok (.aload_n 0, 1) := by decide +kernel
theorem dX8_copy_12 : decode cX8_copy 12 = .ok (.getfield 19, 3) := by decide +kernel
theorem dX8_copy_15 : decode cX8_copy 15 = .ok (.aload_n 1, 1) := by decide +kernel
theorem dX8_copy_16 : decode cX8_copy 16 = .ok (.getfield 19, 3) := by decide +kernel
theorem dX8_copy_19 : decode cX8_copy 19 = .ok (.invokevirtual 37, 3) := by decide +kernel
theorem dX8_copy_22 : decode cX8_copy 22 = .ok (.aload_n 0, 1) := by decide +kernel
theorem dX8_copy_23 : decode cX8_copy 23 = .ok (.aload_n 1, 1) := by decide +kernel
theorem dX8_copy_24 : decode cX8_copy 24 = .ok (.getfield 23, 3) := by decide +kernel
theorem dX8_copy_27 : decode cX8_copy 27 = .ok (.putfield 23, 3) := by decide +kernel
theorem dX8_copy_30 : decode cX8_copy 30 = .ok (.aload_n 0, 1) := by decide +kernel
theorem dX8_copy_31 : decode cX8_copy 31 = .ok (.aload_n 1, 1) := by decide +kernel
theorem dX8_copy_32 : decode cX8_copy 32 = .ok (.getfield 27, 3) := by decide +kernel
theorem dX8_copy_35 : decode cX8_copy 35 = .ok (.putfield 27, 3) := by decide +kernel
theorem dX8_copy_38 : decode cX8_copy 38 = .ok (.aload_n 0, 1) := by decide +kernel
theorem dX8_copy_39 : decode cX8_copy 39 = .ok (.aload_n 1, 1) := by decide +kernel
theorem dX8_copy_40 : decode cX8_copy 40 = .ok (.getfield 30, 3) := by decide +kernel
theorem dX8_copy_43 : decode cX8_copy 43 = .ok (.putfield 30, 3) := by decide +kernel
theorem dX8_copy_46 : decode cX8_copy 46 = .ok (.return_, 1) := by decide +kernel
theorem dX9_init_0 : decode cX9_init 0 = .ok (.aload_n 0, 1) := by decide +kernel
theorem dX9_init_1 : decode cX9_init 1 = .ok (.invokespecial 3, 3) := by decide +kernel
theorem dX9_init_4 : decode cX9_init 4 = .ok (.aload_n 0, 1) := by decide +kernel
theorem dX9_init_5 : decode cX9_init 5 = .ok (.iconst 0, 1) := by decide +kernel
theorem dX9_init_6 : decode cX9_init 6 = .ok (.putfield 9, 3) := by decide +kernel
theorem dX9_init_9 : decode cX9_init 9 = .ok (.aload_n 0, 1) := by decide +kernel
theorem dX9_init_10 : decode cX9_init 10 = .ok (.new 15, 3) := by decide +kernel
theorem dX9_init_13 : decode cX9_init 13 = .ok (.dup, 1) := by decide +kernel
theorem dX9_init_14 : decode cX9_init 14 = .ok (.sipush 640, 3) := by decide +kernel
theorem dX9_init_17 : decode cX9_init 17 = .ok (.invokespecial 17, 3) := by decide +kernel
theorem dX9_init_20 : decode cX9_init 20 = .ok (.putfield 20, 3) := by decide +kernel
theorem dX9_init_23 : decode cX9_init 23 = .ok (.aload_n 0, 1) := by decide +kernel
theorem dX9_init_24 : decode cX9_init 24 = .ok (.new 15, 3) := by decide +kernel
theorem dX9_init_27 : decode cX9_init 27 = .ok (.dup, 1) := by decide +kernel
theorem dX9_init_28 : decode cX9_init 28 = .ok (.sipush 640, 3) := by decide +kernel
theorem dX9_init_31 : decode cX9_init 31 = .ok (.invokespecial 17, 3) := by decide +kernel
theorem dX9_init_34 : decode cX9_init 34 = .ok (.putfield 24, 3) := by decide +kernel
theorem dX9_init_37 : decode cX9_init 37 = .ok (.aload_n 0, 1) := by decide +kernel
theorem dX9_init_38 : decode cX9_init 38 = .ok (.new 15, 3) := by decide +kernel
theorem dX9_init_41 : decode cX9_init 41 = .ok (.dup, 1) := by decide +kernel
theorem dX9_init_42 : decode cX9_init 42 = .ok (.sipush 640, 3) := by decide +kernel
theorem dX9_init_45 : decode cX9_init 45 = .ok (.invokespecial 17, 3) := by decide +kernel
theorem dX9_init_48 : decode cX9_init 48 = .ok (.putfield 27, 3) := by decide +kernel
theorem dX9_init_51 : decode cX9_init 51 = .ok (.aload_n 0, 1) := by decide +kernel
theorem dX9_init_52 : decode cX9_init 52 = .ok (.new 15, 3) := by decide +kernel
theorem dX9_init_55 : decode cX9_init 55 = .ok (.dup, 1) := by decide +kernel
theorem dX9_init_56 : decode cX9_init 56 = .ok (.sipush 640, 3) := by decide +kernel
theorem dX9_init_59 : decode cX9_init 59 = .ok (.invokespecial 17, 3) := by decide +kernel
theorem dX9_init_62 : decode cX9_init 62 = .ok (.putfield 30, 3) := by decide +kernel
theorem dX9_init_65 : decode cX9_init 65 = .ok (.aload_n 0, 1) := by decide +kernel
theorem dX9_init_66 : decode cX9_init 66 = .ok (.new 15, 3) := by decide +kernel
theorem dX9_init_69 : decode cX9_init 69 = .ok (.dup, 1) := by decide +kernel
theorem dX9_init_70 : decode cX9_init 70 = .ok (.bipush 21, 2) := by decide +kernel
theorem dX9_init_72 : decode cX9_init 72 = .ok (.invokespecial 17, 3) := by decide +kernel
theorem dX9_init_75 : decode cX9_init 75 = .ok (.putfield 33, 3) := by decide +kernel
theorem dX9_init_78 : decode cX9_init 78 = .ok (.aload_n 0, 1) := by decide +kernel
theorem dX9_init_79 : decode cX9_init 79 = .ok (.new 15, 3) := by decide +kernel
theorem dX9_init_82 : decode cX9_init 82 = .ok (.dup, 1) := by decide +kernel
theorem dX9_init_83 : decode cX9_init 83 = .ok (.bipush 20, 2) := by decide +kernel
theorem dX9_init_85 : decode cX9_init 85 = .ok (.invokespecial 17, 3) := by decide +kernel
theorem dX9_init_88 : decode cX9_init 88 = .ok (.putfield 36, 3) := by decide +kernel
theorem dX9_init_91 : decode cX9_init 91 = .ok (.aload_n 0, 1) := by decide +kernel
theorem dX9_init_92 : decode cX9_init 92 = .ok (.new 15, 3) := by decide +kernel
theorem dX9_init_95 : decode cX9_init 95 = .ok (.dup, 1) := by decide +kernel
theorem dX9_init_96 : decode cX9_init 96 = .ok (.bipush 32, 2) := by decide +kernel
theorem dX9_init_98 : decode cX9_init 98 = .ok (.invokespecial 17, 3) := by decide +kernel
theorem dX9_init_101 : decode cX9_init 101 = .ok (.putfield 39, 3) := by decide +kernel
theorem dX9_init_104 : decode cX9_init 104 = .ok (.aload_n 0, 1) := by decide +kernel
theorem dX9_init_105 : decode cX9_init 105 = .ok (.iconst 0, 1) := by decide +kernel
theorem dX9_init_106 : decode cX9_init 106 = .ok (.putfield 42, 3) := by decide +kernel
theorem dX9_init_109 : decode cX9_init 109 = .ok (.aload_n 0, 1) := by decide +kernel
theorem dX9_init_110 : decode cX9_init 110 = .ok (.iconst 0, 1) := by decide +kernel
theorem dX9_init_111 : decode cX9_init 111 = .ok (.putfield 45, 3) := by decide +kernel
theorem dX9_init_114 : decode cX9_init 114 = .ok (.return_, 1) := by decide +kernel
theorem dX9_divide_0 : decode cX9_divide 0 = .ok (.aload_n 0, 1) := by decide +kernel
theorem dX9_divide_1 : decode cX9_divide 1 = .ok (.iconst 0, 1) := by decide +kernel
theorem dX9_divide_2 : decode cX9_divide 2 = .ok (.putfield 9, 3) := by decide +kernel
theorem dX9_divide_5 : decode cX9_divide 5 = .ok (.aload_n 0, 1) := by decide +kernel
theorem dX9_divide_6 : decode cX9_divide 6 = .ok (.iconst 0, 1) := by decide +kernel
theorem dX9_divide_7 : decode cX9_divide 7 = .ok (.putfield 45, 3) := by decide +kernel
theorem dX9_divide_10 : decode cX9_divide 10 = .ok (.iconst 0, 1) := by decide +kernel
theorem dX9_divide_11 : decode cX9_divide 11 = .ok (.istore_n 3, 1) := by decide +kernel
theorem dX9_divide_12 : decode cX9_divide 12 = .ok (.iload_n 3, 1) := by decide +kernel
theorem dX9_divide_13 : decode cX9_divide 13 = .ok (.aload_n 1, 1) := by decide +kernel
theorem dX9_divide_14 : decode cX9_divide 14 = .ok (.getfield 49, 3) := by decide +kernel
theorem dX9_divide_17 : decode cX9_divide 17 = .ok (.if_icmp .ge 33, 3) := by decide +kernel
theorem dX9_divide_20 : decode cX9_divide 20 = .ok (.aload_n 0, 1) := by decide +kernel
theorem dX9_divide_21 : decode cX9_divide 21 = .ok (.getfield 33, 3) := by decide +kernel
theorem dX9_divide_24 : decode cX9_divide 24 = .ok (.iload_n 3, 1) := by decide +kernel
theorem dX9_divide_25 : decode cX9_divide 25 = .ok (.aload_n 0, 1) := by decide +kernel
theorem dX9_divide_26 : decode cX9_divide 26 = .ok (.getfield 9, 3) := by decide +kernel
theorem dX9_divide_29 : decode cX9_divide 29 = .ok (.invokevirtual 52, 3) := by decide +kernel
theorem dX9_divide_32 : decode cX9_divide 32 = .ok (.aload_n 0, 1) := by decide +kernel
theorem dX9_divide_33 : decode cX9_divide 33 = .ok (.aload_n 1, 1) := by decide +kernel
theorem dX9_divide_34 : decode cX9_divide 34 = .ok (.iload_n 3, 1) := by decide +kernel
theorem dX9_divide_35 : decode cX9_divide 35 = .ok (.invokevirtual 56, 3) := by decide +kernel
theorem dX9_divide_38 : decode cX9_divide 38 = .ok (.aload_n 0, 1) := by decide +kernel
theorem dX9_divide_39 : decode cX9_divide 39 = .ok (.iload_n 3, 1) := by decide +kernel
theorem dX9_divide_40 : decode cX9_divide 40 = .ok (.iload_n 2, 1) := by decide +kernel
theorem dX9_divide_41 : decode cX9_divide 41 = .ok (.invokevirtual 60, 3) := by decide +kernel
theorem dX9_divide_44 : decode cX9_divide 44 = .ok (.iinc 3 1, 3) := by decide +kernel
theorem dX9_divide_47 : decode cX9_divide 47 = .ok (.goto (-35), 3) := by decide +kernel
theorem dX9_divide_50 : decode cX9_divide 50 = .ok (.aload_n 0, 1) := by decide +kernel
theorem dX9_divide_51 : decode cX9_divide 51 = .ok (.getfield 33, 3) := by decide +kernel
theorem dX9_divide_54 : decode cX9_divide 54 = .ok (.aload_n 1, 1) := by decide +kernel
theorem dX9_divide_55 : decode cX9_divide 55 = .ok (.getfield 49, 3) := by decide +kernel
theorem dX9_divide_58 : decode cX9_divide 58 = .ok (.aload_n 0, 1) := by decide +kernel
theorem dX9_divide_59 : decode cX9_divide 59 = .ok (.getfield 9, 3) := by decide +kernel
theorem dX9_divide_62 : decode cX9_divide 62 = .ok (.invokevirtual 52, 3) := by decide +kernel
theorem dX9_divide_65 : decode cX9_divide 65 = .ok (.return_, 1) := by decide +kernel
theorem dX9_countIn_0 : decode cX9_countIn 0 = .ok (.aload_n 0, 1) := by decide +kernel
theorem dX9_countIn_1 : decode cX9_countIn 1 = .ok (.getfield 33, 3) := by decide +kernel
theorem dX9_countIn_4 : decode cX9_countIn 4 = .ok (.iload_n 1, 1) := by decide +kernel
theorem dX9_countIn_5 : decode cX9_countIn 5 = .ok (.iconst 1, 1) := by decide +kernel
theorem dX9_countIn_6 : decode cX9_countIn 6 = .ok (.iadd, 1) := by decide +kernel
theorem dX9_countIn_7 : decode cX9_countIn 7 = .ok (.invokevirtual 63, 3) := by decide +kernel
theorem dX9_countIn_10 : decode cX9_countIn 10 = .ok (.aload_n 0, 1) := by decide +kernel
theorem dX9_countIn_11 : decode cX9_countIn 11 = .ok (.getfield 33, 3) := by decide +kernel
theorem dX9_countIn_14 : decode cX9_countIn 14 = .ok (.iload_n 1, 1) := by decide +kernel
theorem dX9_countIn_15 : decode cX9_countIn 15 = .ok (.invokevirtual 63, 3) := by decide +kernel
theorem dX9_countIn_18 : decode cX9_countIn 18 = .ok (.isub, 1) := by decide +kernel
theorem dX9_countIn_19 : decode cX9_countIn 19 = .ok (.ireturn, 1) := by decide +kernel
theorem dX9_load_0 : decode cX9_load 0 = .ok (.aload_n 0, 1) := by decide +kernel
theorem dX9_load_1 : decode cX9_load 1 = .ok (.aload_n 1, 1) := by decide +kernel
theorem dX9_load_2 : decode cX9_load 2 = .ok (.getfield 67, 3) := by decide +kernel
theorem dX9_load_5 : decode cX9_load 5 = .ok (.iload_n 2, 1) := by decide +kernel
theorem dX9_load_6 : decode cX9_load 6 = .ok (.invokevirtual 63, 3) := by decide +kernel
theorem dX9_load_9 : decode cX9_load 9 = .ok (.putfield 42, 3) := by decide +kernel
theorem dX9_load_12 : decode cX9_load 12 = .ok (.iconst 0, 1) := by decide +kernel
theorem dX9_load_13 : decode cX9_load 13 = .ok (.istore_n 3, 1) := by decide +kernel
theorem dX9_load_14 : decode cX9_load 14 = .ok (.iload_n 3, 1) := by decide +kernel
theorem dX9_load_15 : decode cX9_load 15 = .ok (.bipush 32, 2) := by decide +kernel
theorem dX9_load_17 : decode cX9_load 17 = .ok (.if_icmp .ge 23, 3) := by decide +kernel
theorem dX9_load_20 : decode cX9_load 20 = .ok (.aload_n 0, 1) := by decide +kernel
theorem dX9_load_21 : decode cX9_load 21 = .ok (.getfield 39, 3) := by decide +kernel
theorem dX9_load_24 : decode cX9_load 24 = .ok (.iload_n 3, 1) := by decide +kernel
theorem dX9_load_25 : decode cX9_load 25 = .ok (.aload_n 1, 1) := by decide +kernel
theorem dX9_load_26 : decode cX9_load 26 = .ok (.iload_n 2, 1) := by decide +kernel
theorem dX9_load_27 : decode cX9_load 27 = .ok (.iload_n 3, 1) := by decide +kernel
theorem dX9_load_28 : decode cX9_load 28 = .ok (.invokevirtual 68, 3) := by decide +kernel
theorem dX9_load_31 : decode cX9_load 31 = .ok (.invokevirtual 52, 3) := by decide +kernel
theorem dX9_load_34 : decode cX9_load 34 = .ok (.iinc 3 1, 3) := by decide +kernel
theorem dX9_load_37 : decode cX9_load 37 = .ok (.goto (-23), 3) := by decide +kernel
theorem dX9_load_40 : decode cX9_load 40 = .ok (.return_, 1) := by decide +kernel
theorem dX9_divideLine_0 : decode cX9_divideLine 0 = .ok (.aload_n 0, 1) := by decide +kernel
theorem dX9_divideLine_1 : decode cX9_divideLine 1 = .ok (.getfield 36, 3) := by decide +kernel
theorem dX9_divideLine_4 : decode cX9_divideLine 4 = .ok (.iload_n 1, 1) := by decide +kernel
theorem dX9_divideLine_5 : decode cX9_divideLine 5 = .ok (.aload_n 0, 1) := by decide +kernel
theorem dX9_divideLine_6 : decode cX9_divideLine 6 = .ok (.getfield 45, 3) := by decide +kernel
theorem dX9_divideLine_9 : decode cX9_divideLine 9 = .ok (.ifCond .eq 14, 3) := by decide +kernel
theorem dX9_divideLine_12 : decode cX9_divideLine 12 = .ok (.aload_n 0, 1) := by decide +kernel
theorem dX9_divideLine_13 : decode cX9_divideLine 13 = .ok (.getfield 42, 3) := by decide +kernel
theorem dX9_divideLine_16 : decode cX9_divideLine 16 = .ok (.ifCond .le 7, 3) := by decide +kernel
theorem dX9_divideLine_19 : decode cX9_divideLine 19 = .ok (.iconst 1, 1) := by decide +kernel
theorem dX9_divideLine_20 : decode cX9_divideLine 20 = .ok (.goto 4, 3) := by decide +kernel
theorem dX9_divideLine_23 : decode cX9_divideLine 23 = .ok (.iconst 0, 1) := by decide +kernel
theorem dX9_divideLine_24 : decode cX9_divideLine 24 = .ok (.invokevirtual 52, 3) := by decide +kernel
theorem dX9_divideLine_27 : decode cX9_divideLine 27 = .ok (.aload_n 0, 1) := by decide +kernel
theorem dX9_divideLine_28 : decode cX9_divideLine 28 = .ok (.getfield 45, 3) := by decide +kernel
theorem dX9_divideLine_31 : decode cX9_divideLine 31 = .ok (.ifCond .eq 11, 3) := by decide +kernel
theorem dX9_divideLine_34 : decode cX9_divideLine 34 = .ok (.aload_n 0, 1) := by decide +kernel
theorem dX9_divideLine_35 : decode cX9_divideLine 35 = .ok (.iconst 0, 1) := by decide +kernel
theorem dX9_divideLine_36 : decode cX9_divideLine 36 = .ok (.invokevirtual 72, 3) := by decide +kernel
theorem dX9_divideLine_39 : decode cX9_divideLine 39 = .ok (.goto 4, 3) := by decide +kernel
theorem dX9_divideLine_42 : decode cX9_divideLine 42 = .ok (.iconst 0, 1) := by decide +kernel
theorem dX9_divideLine_43 : decode cX9_divideLine 43 = .ok (.istore_n 3, 1) := by decide +kernel
theorem dX9_divideLine_44 : decode cX9_divideLine 44 = .ok (.iload_n 3, 1) := by decide +kernel
theorem dX9_divideLine_45 : decode cX9_divideLine 45 = .ok (.istore 4, 2) := by decide +kernel
theorem dX9_divideLine_47 : decode cX9_divideLine 47 = .ok (.iload 4, 2) := by decide +kernel
theorem dX9_divideLine_49 : decode cX9_divideLine 49 = .ok (.aload_n 0, 1) := by decide +kernel
theorem dX9_divideLine_50 : decode cX9_divideLine 50 = .ok (.getfield 42, 3) := by decide +kernel
theorem dX9_divideLine_53 : decode cX9_divideLine 53 = .ok (.if_icmp .ge 128, 3) := by decide +kernel
theorem dX9_divideLine_56 : decode cX9_divideLine 56 = .ok (.aload_n 0, 1) := by decide +kernel
theorem dX9_divideLine_57 : decode cX9_divideLine 57 = .ok (.getfield 39, 3) := by decide +kernel
theorem dX9_divideLine_60 : decode cX9_divideLine 60 = .ok (.iload 4, 2) := by decide +kernel
theorem dX9_divideLine_62 : decode cX9_divideLine 62 = .ok (.invokevirtual 63, 3) := by decide +kernel
theorem dX9_divideLine_65 : decode cX9_divideLine 65 = .ok (.istore 5, 2) := by decide +kernel
theorem dX9_divideLine_67 : decode cX9_divideLine 67 = .ok (.iload 5, 2) := by decide +kernel
theorem dX9_divideLine_69 : decode cX9_divideLine 69 = .ok (.iload_n 2, 1) := by decide +kernel
theorem dX9_divideLine_70 : decode cX9_divideLine 70 = .ok (.if_icmp .ne 4, 3) := by decide +kernel
theorem dX9_divideLine_73 : decode cX9_divideLine 73 = .ok (.return_, 1) := by decide +kernel
theorem dX9_divideLine_74 : decode cX9_divideLine 74 = .ok (.iload 5, 2) := by decide +kernel
theorem dX9_divideLine_76 : decode cX9_divideLine 76 = .ok (.bipush 34, 2) := by decide +kernel
theorem dX9_divideLine_78 : decode cX9_divideLine 78 = .ok (.if_icmp .ne 44, 3) := by decide +kernel
theorem dX9_divideLine_81 : decode cX9_divideLine 81 = .ok (.aload_n 0, 1) := by decide +kernel
theorem dX9_divideLine_82 : decode cX9_divideLine 82 = .ok (.iload 4, 2) := by decide +kernel
theorem dX9_divideLine_84 : decode cX9_divideLine 84 = .ok (.invokevirtual 75, 3) := by decide +kernel
theorem dX9_divideLine_87 : decode cX9_divideLine 87 = .ok (.ifCond .eq 14, 3) := by decide +kernel
theorem dX9_divideLine_90 : decode cX9_divideLine 90 = .ok (.aload_n 0, 1) := by decide +kernel
theorem dX9_divideLine_91 : decode cX9_divideLine 91 = .ok (.iload 4, 2) := by decide +kernel
theorem dX9_divideLine_93 : decode cX9_divideLine 93 = .ok (.iconst 3, 1) := by decide +kernel
theorem dX9_divideLine_94 : decode cX9_divideLine 94 = .ok (.iadd, 1) := by decide +kernel
theorem dX9_divideLine_95 : decode cX9_divideLine 95 = .ok (.invokevirtual 72, 3) := by decide +kernel
theorem dX9_divideLine_98 : decode cX9_divideLine 98 = .ok (.goto 11, 3) := by decide +kernel
theorem dX9_divideLine_101 : decode cX9_divideLine 101 = .ok (.aload_n 0, 1) := by decide +kernel
theorem dX9_divideLine_102 : decode cX9_divideLine 102 = .ok (.iload 4, 2) := by decide +kernel
theorem dX9_divideLine_104 : decode cX9_divideLine 104 = .ok (.iconst 1, 1) := by decide +kernel
theorem dX9_divideLine_105 : decode cX9_divideLine 105 = .ok (.iadd, 1) := by decide +kernel
theorem dX9_divideLine_106 : decode cX9_divideLine 106 = .ok (.invokevirtual 79, 3) := by decide +kernel
theorem dX9_divideLine_109 : decode cX9_divideLine 109 = .ok (.istore_n 3, 1) := by decide +kernel
theorem dX9_divideLine_110 : decode cX9_divideLine 110 = .ok (.aload_n 0, 1) := by decide +kernel
theorem dX9_divideLine_111 : decode cX9_divideLine 111 = .ok (.iload_n 1, 1) := by decide +kernel
theorem dX9_divideLine_112 : decode cX9_divideLine 112 = .ok (.iload 4, 2) := by decide +kernel
theorem dX9_divideLine_114 : decode cX9_divideLine 114 = .ok (.iload_n 3, 1) := by decide +kernel
theorem dX9_divideLine_115 : decode cX9_divideLine 115 = .ok (.iconst 2, 1) := by decide +kernel
theorem dX9_divideLine_116 : decode cX9_divideLine 116 = .ok (.invokevirtual 82, 3) := by decide +kernel
theorem dX9_divideLine_119 : decode cX9_divideLine 119 = .ok (.goto 49, 3) := by decide +kernel
theorem dX9_divideLine_122 : decode cX9_divideLine 122 = .ok (.iload 5, 2) := by decide +kernel
theorem dX9_divideLine_124 : decode cX9_divideLine 124 = .ok (.invokestatic 86, 3) := by decide +kernel
theorem dX9_divideLine_127 : decode cX9_divideLine 127 = .ok (.ifCond .eq 22, 3) := by decide +kernel
theorem dX9_divideLine_130 : decode cX9_divideLine 130 = .ok (.aload_n 0, 1) := by decide +kernel
theorem dX9_divideLine_131 : decode cX9_divideLine 131 = .ok (.iload 4, 2) := by decide +kernel
theorem dX9_divideLine_133 : decode cX9_divideLine 133 = .ok (.invokevirtual 89, 3) := by decide +kernel
theorem dX9_divideLine_136 : decode cX9_divideLine 136 = .ok (.istore_n 3, 1) := by decide +kernel
theorem dX9_divideLine_137 : decode cX9_divideLine 137 = .ok (.aload_n 0, 1) := by decide +kernel
theorem dX9_divideLine_138 : decode cX9_divideLine 138 = .ok (.iload_n 1, 1) := by decide +kernel
theorem dX9_divideLine_139 : decode cX9_divideLine 139 = .ok (.iload 4, 2) := by decide +kernel
theorem dX9_divideLine_141 : decode cX9_divideLine 141 = .ok (.iload_n 3, 1) := by decide +kernel
theorem dX9_divideLine_142 : decode cX9_divideLine 142 = .ok (.iconst 0, 1) := by decide +kernel
theorem dX9_divideLine_143 : decode cX9_divideLine 143 = .ok (.invokevirtual 82, 3) := by decide +kernel
theorem dX9_divideLine_146 : decode cX9_divideLine 146 = .ok (.goto 22, 3) := by decide +kernel
theorem dX9_divideLine_149 : decode cX9_divideLine 149 = .ok (.iload 5, 2) := by decide +kernel
theorem dX9_divideLine_151 : decode cX9_divideLine 151 = .ok (.bipush 32, 2) := by decide +kernel
theorem dX9_divideLine_153 : decode cX9_divideLine 153 = .ok (.if_icmp .eq 15, 3) := by decide +kernel
theorem dX9_divideLine_156 : decode cX9_divideLine 156 = .ok (.aload_n 0, 1) := by decide +kernel
theorem dX9_divideLine_157 : decode cX9_divideLine 157 = .ok (.iload_n 1, 1) := by decide +kernel
theorem dX9_divideLine_158 : decode cX9_divideLine 158 = .ok (.iload 4, 2) := by decide +kernel
theorem dX9_divideLine_160 : decode cX9_divideLine 160 = .ok (.iload 4, 2) := by decide +kernel
theorem dX9_divideLine_162 : decode cX9_divideLine 162 = .ok (.iconst 1, 1) := by decide +kernel
theorem dX9_divideLine_163 : decode cX9_divideLine 163 = .ok (.iadd, 1) := by decide +kernel
theorem dX9_divideLine_164 : decode cX9_divideLine 164 = .ok (.iconst 1, 1) := by decide +kernel
theorem dX9_divideLine_165 : decode cX9_divideLine 165 = .ok (.invokevirtual 82, 3) := by decide +kernel
theorem dX9_divideLine_168 : decode cX9_divideLine 168 = .ok (.iload 4, 2) := by decide +kernel
theorem dX9_divideLine_170 : decode cX9_divideLine 170 = .ok (.iconst 1, 1) := by decide +kernel
theorem dX9_divideLine_171 : decode cX9_divideLine 171 = .ok (.iadd, 1) := by decide +kernel
theorem dX9_divideLine_172 : decode cX9_divideLine 172 = .ok (.iload_n 3, 1) := by decide +kernel
theorem dX9_divideLine_173 : decode cX9_divideLine 173 = .ok (.invokestatic 92, 3) := by decide +kernel
theorem dX9_divideLine_176 : decode cX9_divideLine 176 = .ok (.istore 4, 2) := by decide +kernel
theorem dX9_divideLine_178 : decode cX9_divideLine 178 = .ok (.goto (-131), 3) := by decide +kernel
theorem dX9_divideLine_181 : decode cX9_divideLine 181 = .ok (.return_, 1) := by decide +kernel
theorem dX9_add_0 : decode cX9_add 0 = .ok (.aload_n 0, 1) := by decide +kernel
theorem dX9_add_1 : decode cX9_add 1 = .ok (.getfield 9, 3) := by decide +kernel
theorem dX9_add_4 : decode cX9_add 4 = .ok (.sipush 640, 3) := by decide +kernel
theorem dX9_add_7 : decode cX9_add 7 = .ok (.if_icmp .ge 64, 3) := by decide +kernel
theorem dX9_add_10 : decode cX9_add 10 = .ok (.aload_n 0, 1) := by decide +kernel
theorem dX9_add_11 : decode cX9_add 11 = .ok (.getfield 20, 3) := by decide +kernel
theorem dX9_add_14 : decode cX9_add 14 = .ok (.aload_n 0, 1) := by decide +kernel
theorem dX9_add_15 : decode cX9_add 15 = .ok (.getfield 9, 3) := by decide +kernel
theorem dX9_add_18 : decode cX9_add 18 = .ok (.iload_n 1, 1) := by decide +kernel
theorem dX9_add_19 : decode cX9_add 19 = .ok (.invokevirtual 52, 3) := by decide +kernel
theorem dX9_add_22 : decode cX9_add 22 = .ok (.aload_n 0, 1) := by decide +kernel
theorem dX9_add_23 : decode cX9_add 23 = .ok (.getfield 24, 3) := by decide +kernel
theorem dX9_add_26 : decode cX9_add 26 = .ok (.aload_n 0, 1) := by decide +kernel
theorem dX9_add_27 : decode cX9_add 27 = .ok (.getfield 9, 3) := by decide +kernel
theorem dX9_add_30 : decode cX9_add 30 = .ok (.iload_n 2, 1) := by decide +kernel
theorem dX9_add_31 : decode cX9_add 31 = .ok (.invokevirtual 52, 3) := by decide +kernel
theorem dX9_add_34 : decode cX9_add 34 = .ok (.aload_n 0, 1) := by decide +kernel
theorem dX9_add_35 : decode cX9_add 35 = .ok (.getfield 27, 3) := by decide +kernel
theorem dX9_add_38 : decode cX9_add 38 = .ok (.aload_n 0, 1) := by decide +kernel
theorem dX9_add_39 : decode cX9_add 39 = .ok (.getfield 9, 3) := by decide +kernel
theorem dX9_add_42 : decode cX9_add 42 = .ok (.iload_n 3, 1) := by decide +kernel
theorem dX9_add_43 : decode cX9_add 43 = .ok (.iload_n 2, 1) := by decide +kernel
theorem dX9_add_44 : decode cX9_add 44 = .ok (.isub, 1) := by decide +kernel
theorem dX9_add_45 : decode cX9_add 45 = .ok (.invokevirtual 52, 3) := by decide +kernel
theorem dX9_add_48 : decode cX9_add 48 = .ok (.aload_n 0, 1) := by decide +kernel
theorem dX9_add_49 : decode cX9_add 49 = .ok (.getfield 30, 3) := by decide +kernel
theorem dX9_add_52 : decode cX9_add 52 = .ok (.aload_n 0, 1) := by decide +kernel
theorem dX9_add_53 : decode cX9_add 53 = .ok (.getfield 9, 3) := by decide +kernel
theorem dX9_add_56 : decode cX9_add 56 = .ok (.iload 4, 2) := by decide +kernel
theorem dX9_add_58 : decode cX9_add 58 = .ok (.invokevirtual 52, 3) := by decide +kernel
theorem dX9_add_61 : decode cX9_add 61 = .ok (.aload_n 0, 1) := by decide +kernel
theorem dX9_add_62 : decode cX9_add 62 = .ok (.dup, 1) := by decide +kernel
theorem dX9_add_63 : decode cX9_add 63 = .ok (.getfield 9, 3) := by decide +kernel
theorem dX9_add_66 : decode cX9_add 66 = .ok (.iconst 1, 1) := by decide +kernel
theorem dX9_add_67 : decode cX9_add 67 = .ok (.iadd, 1) := by decide +kernel
theorem dX9_add_68 : decode cX9_add 68 = .ok (.putfield 9, 3) := by decide +kernel
theorem dX9_add_71 : decode cX9_add 71 = .ok (.return_, 1) := by decide +kernel
theorem dX9_wordEnd_0 : decode cX9_wordEnd 0 = .ok (.iload_n 1, 1) := by decide +kernel
theorem dX9_wordEnd_1 : decode cX9_wordEnd 1 = .ok (.istore_n 2, 1) := by decide +kernel
theorem dX9_wordEnd_2 : decode cX9_wordEnd 2 = .ok (.iload_n 2, 1) := by decide +kernel
theorem dX9_wordEnd_3 : decode cX9_wordEnd 3 = .ok (.aload_n 0, 1) := by decide +kernel
theorem dX9_wordEnd_4 : decode cX9_wordEnd 4 = .ok (.getfield 42, 3) := by decide +kernel
theorem dX9_wordEnd_7 : decode cX9_wordEnd 7 = .ok (.if_icmp .ge 23, 3) := by decide +kernel
theorem dX9_wordEnd_10 : decode cX9_wordEnd 10 = .ok (.aload_n 0, 1) := by decide +kernel
theorem dX9_wordEnd_11 : decode cX9_wordEnd 11 = .ok (.getfield 39, 3) := by decide +kernel
theorem dX9_wordEnd_14 : decode cX9_wordEnd 14 = .ok (.iload_n 2, 1) := by decide +kernel
theorem dX9_wordEnd_15 : decode cX9_wordEnd 15 = .ok (.invokevirtual 63, 3) := by decide +kernel
theorem dX9_wordEnd_18 : decode cX9_wordEnd 18 = .ok (.invokestatic 86, 3) := by decide +kernel
theorem dX9_wordEnd_21 : decode cX9_wordEnd 21 = .ok (.ifCond .eq 9, 3) := by decide +kernel
theorem dX9_wordEnd_24 : decode cX9_wordEnd 24 = .ok (.iinc 2 1, 3) := by decide +kernel
theorem dX9_wordEnd_27 : decode cX9_wordEnd 27 = .ok (.goto (-25), 3) := by decide +kernel
theorem dX9_wordEnd_30 : decode cX9_wordEnd 30 = .ok (.iload_n 2, 1) := by decide +kernel
theorem dX9_wordEnd_31 : decode cX9_wordEnd 31 = .ok (.ireturn, 1) := by decide +kernel
theorem dX9_threeQuotesAt_0 : decode cX9_threeQuotesAt 0 = .ok (.aload_n 0, 1) := by decide +kernel
theorem dX9_threeQuotesAt_1 : decode cX9_threeQuotesAt 1 = .ok (.getfield 39, 3) := by decide +kernel
theorem dX9_threeQuotesAt_4 : decode cX9_threeQuotesAt 4 = .ok (.iload_n 1, 1) := by decide +kernel
theorem dX9_threeQuotesAt_5 : decode cX9_threeQuotesAt 5 = .ok (.invokevirtual 63, 3) := by decide +kernel
theorem dX9_threeQuotesAt_8 : decode cX9_threeQuotesAt 8 = .ok (.bipush 34, 2) := by decide +kernel
theorem dX9_threeQuotesAt_10 : decode cX9_threeQuotesAt 10 = .ok (.if_icmp .ne 37, 3) := by decide +kernel
theorem dX9_threeQuotesAt_13 : decode cX9_threeQuotesAt 13 = .ok (.aload_n 0, 1) := by decide +kernel
theorem dX9_threeQuotesAt_14 : decode cX9_threeQuotesAt 14 = .ok (.getfield 39, 3) := by decide +kernel
theorem dX9_threeQuotesAt_17 : decode cX9_threeQuotesAt 17 = .ok (.iload_n 1, 1) := by decide +kernel
theorem dX9_threeQuotesAt_18 : decode cX9_threeQuotesAt 18 = .ok (.iconst 1, 1) := by decide +kernel
theorem dX9_threeQuotesAt_19 : decode cX9_threeQuotesAt 19 = .ok (.iadd, 1) := by decide +kernel
theorem dX9_threeQuotesAt_20 : decode cX9_threeQuotesAt 20 = .ok (.invokevirtual 63, 3) := by decide +kernel
theorem dX9_threeQuotesAt_23 : decode cX9_threeQuotesAt 23 = .ok (.bipush 34, 2) := by decide +kernel
theorem dX9_threeQuotesAt_25 : decode cX9_threeQuotesAt 25 = .ok (.if_icmp .ne 22, 3) := by decide +kernel
theorem dX9_threeQuotesAt_28 : decode cX9_threeQuotesAt 28 = .ok (.aload_n 0, 1) := by decide +kernel
theorem dX9_threeQuotesAt_29 : decode cX9_threeQuotesAt 29 = .ok (.getfield 39, 3) := by decide +kernel
theorem dX9_threeQuotesAt_32 : decode cX9_threeQuotesAt 32 = .ok (.iload_n 1, 1) := by decide +kernel
theorem dX9_threeQuotesAt_33 : decode cX9_threeQuotesAt 33 = .ok (.iconst 2, 1) := by decide +kernel
theorem dX9_threeQuotesAt_34 : decode cX9_threeQuotesAt 34 = .ok (.iadd, 1) := by decide +kernel
theorem dX9_threeQuotesAt_35 : decode cX9_threeQuotesAt 35 = .ok (.invokevirtual 63, 3) := by decide +kernel
theorem dX9_threeQuotesAt_38 : decode cX9_threeQuotesAt 38 = .ok (.bipush 34, 2) := by decide +kernel
theorem dX9_threeQuotesAt_40 : decode cX9_threeQuotesAt 40 = .ok (.if_icmp .ne 7, 3) := by decide +kernel
theorem dX9_threeQuotesAt_43 : decode cX9_threeQuotesAt 43 = .ok (.iconst 1, 1) := by decide +kernel
theorem dX9_threeQuotesAt_44 : decode cX9_threeQuotesAt 44 = .ok (.goto 4, 3) := by decide +kernel
theorem dX9_threeQuotesAt_47 : decode cX9_threeQuotesAt 47 = .ok (.iconst 0, 1) := by decide +kernel
theorem dX9_threeQuotesAt_48 : decode cX9_threeQuotesAt 48 = .ok (.ireturn, 1) := by decide +kernel
theorem dX9_literalEnd_0 : decode cX9_literalEnd 0 = .ok (.iload_n 1, 1) := by decide +kernel
theorem dX9_literalEnd_1 : decode cX9_literalEnd 1 = .ok (.istore_n 2, 1) := by decide +kernel
theorem dX9_literalEnd_2 : decode cX9_literalEnd 2 = .ok (.iload_n 2, 1) := by decide +kernel
theorem dX9_literalEnd_3 : decode cX9_literalEnd 3 = .ok (.aload_n 0, 1) := by decide +kernel
theorem dX9_literalEnd_4 : decode cX9_literalEnd 4 = .ok (.getfield 42, 3) := by decide +kernel
theorem dX9_literalEnd_7 : decode cX9_literalEnd 7 = .ok (.if_icmp .ge 26, 3) := by decide +kernel
theorem dX9_literalEnd_10 : decode cX9_literalEnd 10 = .ok (.aload_n 0, 1) := by decide +kernel
theorem dX9_literalEnd_11 : decode cX9_literalEnd 11 = .ok (.iload_n 2, 1) := by decide +kernel
theorem dX9_literalEnd_12 : decode cX9_literalEnd 12 = .ok (.invokevirtual 75, 3) := by decide +kernel
theorem dX9_literalEnd_15 : decode cX9_literalEnd 15 = .ok (.ifCond .eq 12, 3) := by decide +kernel
theorem dX9_literalEnd_18 : decode cX9_literalEnd 18 = .ok (.aload_n 0, 1) := by decide +kernel
theorem dX9_literalEnd_19 : decode cX9_literalEnd 19 = .ok (.iconst 0, 1) := by decide +kernel
theorem dX9_literalEnd_20 : decode cX9_literalEnd 20 = .ok (.putfield 45, 3) := by decide +kernel
theorem dX9_literalEnd_23 : decode cX9_literalEnd 23 = .ok (.iload_n 2, 1) := by decide +kernel
theorem dX9_literalEnd_24 : decode cX9_literalEnd 24 = .ok (.iconst 3, 1) := by decide +kernel
theorem dX9_literalEnd_25 : decode cX9_literalEnd 25 = .ok (.iadd, 1) := by decide +kernel
theorem dX9_literalEnd_26 : decode cX9_literalEnd 26 = .ok (.ireturn, 1) := by decide +kernel
theorem dX9_literalEnd_27 : decode cX9_literalEnd 27 = .ok (.iinc 2 1, 3) := by decide +kernel
theorem dX9_literalEnd_30 : decode cX9_literalEnd 30 = .ok (.goto (-28), 3) := by decide +kernel
theorem dX9_literalEnd_33 : decode cX9_literalEnd 33 = .ok (.aload_n 0, 1) := by decide +kernel
theorem dX9_literalEnd_34 : decode cX9_literalEnd 34 = .ok (.iconst 1, 1) := by decide +kernel
theorem dX9_literalEnd_35 : decode cX9_literalEnd 35 = .ok (.putfield 45, 3) := by decide +kernel
theorem dX9_literalEnd_38 : decode cX9_literalEnd 38 = .ok (.aload_n 0, 1) := by decide +kernel
theorem dX9_literalEnd_39 : decode cX9_literalEnd 39 = .ok (.getfield 42, 3) := by decide +kernel
theorem dX9_literalEnd_42 : decode cX9_literalEnd 42 = .ok (.ireturn, 1) := by decide +kernel
theorem dX9_stringEnd_0 : decode cX9_stringEnd 0 = .ok (.iload_n 1, 1) := by decide +kernel
theorem dX9_stringEnd_1 : decode cX9_stringEnd 1 = .ok (.istore_n 2, 1) := by decide +kernel
theorem dX9_stringEnd_2 : decode cX9_stringEnd 2 = .ok (.iload_n 2, 1) := by decide +kernel
theorem dX9_stringEnd_3 : decode cX9_stringEnd 3 = .ok (.aload_n 0, 1) := by decide +kernel
theorem dX9_stringEnd_4 : decode cX9_stringEnd 4 = .ok (.getfield 42, 3) := by decide +kernel
theorem dX9_stringEnd_7 : decode cX9_stringEnd 7 = .ok (.if_icmp .ge 42, 3) := by decide +kernel
theorem dX9_stringEnd_10 : decode cX9_stringEnd 10 = .ok (.aload_n 0, 1) := by decide +kernel
theorem dX9_stringEnd_11 : decode cX9_stringEnd 11 = .ok (.getfield 39, 3) := by decide +kernel
theorem dX9_stringEnd_14 : decode cX9_stringEnd 14 = .ok (.iload_n 2, 1) := by decide +kernel
theorem dX9_stringEnd_15 : decode cX9_stringEnd 15 = .ok (.invokevirtual 63, 3) := by decide +kernel
theorem dX9_stringEnd_18 : decode cX9_stringEnd 18 = .ok (.bipush 34, 2) := by decide +kernel
theorem dX9_stringEnd_20 : decode cX9_stringEnd 20 = .ok (.if_icmp .ne 7, 3) := by decide +kernel
theorem dX9_stringEnd_23 : decode cX9_stringEnd 23 = .ok (.iload_n 2, 1) := by decide +kernel
theorem dX9_stringEnd_24 : decode cX9_stringEnd 24 = .ok (.iconst 1, 1) := by decide +kernel
theorem dX9_stringEnd_25 : decode cX9_stringEnd 25 = .ok (.iadd, 1) := by decide +kernel
theorem dX9_stringEnd_26 : decode cX9_stringEnd 26 = .ok (.ireturn, 1) := by decide +kernel
theorem dX9_stringEnd_27 : decode cX9_stringEnd 27 = .ok (.aload_n 0, 1) := by decide +kernel
theorem dX9_stringEnd_28 : decode cX9_stringEnd 28 = .ok (.getfield 39, 3) := by decide +kernel
theorem dX9_stringEnd_31 : decode cX9_stringEnd 31 = .ok (.iload_n 2, 1) := by decide +kernel
theorem dX9_stringEnd_32 : decode cX9_stringEnd 32 = .ok (.invokevirtual 63, 3) := by decide +kernel
theorem dX9_stringEnd_35 : decode cX9_stringEnd 35 = .ok (.bipush 92, 2) := by decide +kernel
theorem dX9_stringEnd_37 : decode cX9_stringEnd 37 = .ok (.if_icmp .ne 6, 3) := by decide +kernel
theorem dX9_stringEnd_40 : decode cX9_stringEnd 40 = .ok (.iinc 2 1, 3) := by decide +kernel
theorem dX9_stringEnd_43 : decode cX9_stringEnd 43 = .ok (.iinc 2 1, 3) := by decide +kernel
theorem dX9_stringEnd_46 : decode cX9_stringEnd 46 = .ok (.goto (-44), 3) := by decide +kernel
theorem dX9_stringEnd_49 : decode cX9_stringEnd 49 = .ok (.aload_n 0, 1) := by decide +kernel
theorem dX9_stringEnd_50 : decode cX9_stringEnd 50 = .ok (.getfield 42, 3) := by decide +kernel
theorem dX9_stringEnd_53 : decode cX9_stringEnd 53 = .ok (.ireturn, 1) := by decide +kernel
theorem dX10_init_0 : decode cX10_init 0 = .ok (.aload_n 0, 1) := by decide +kernel
theorem dX10_init_1 : decode cX10_init 1 = .ok (.invokespecial 3, 3) := by decide +kernel
theorem dX10_init_4 : decode cX10_init 4 = .ok (.aload_n 0, 1) := by decide +kernel
theorem dX10_init_5 : decode cX10_init 5 = .ok (.iconst 0, 1) := by decide +kernel
theorem dX10_init_6 : decode cX10_init 6 = .ok (.putfield 9, 3) := by decide +kernel
theorem dX10_init_9 : decode cX10_init 9 = .ok (.aload_n 0, 1) := by decide +kernel
theorem dX10_init_10 : decode cX10_init 10 = .ok (.new 15, 3) := by decide +kernel
theorem dX10_init_13 : decode cX10_init 13 = .ok (.dup, 1) := by decide +kernel
theorem dX10_init_14 : decode cX10_init 14 = .ok (.sipush 640, 3) := by decide +kernel
theorem dX10_init_17 : decode cX10_init 17 = .ok (.invokespecial 17, 3) := by decide +kernel
theorem dX10_init_20 : decode cX10_init 20 = .ok (.putfield 20, 3) := by decide +kernel
theorem dX10_init_23 : decode cX10_init 23 = .ok (.aload_n 0, 1) := by decide +kernel
theorem dX10_init_24 : decode cX10_init 24 = .ok (.new 15, 3) := by decide +kernel
theorem dX10_init_27 : decode cX10_init 27 = .ok (.dup, 1) := by decide +kernel
theorem dX10_init_28 : decode cX10_init 28 = .ok (.sipush 640, 3) := by decide +kernel
theorem dX10_init_31 : decode cX10_init 31 = .ok (.invokespecial 17, 3) := by decide +kernel
theorem dX10_init_34 : decode cX10_init 34 = .ok (.putfield 24, 3) := by decide +kernel
theorem dX10_init_37 : decode cX10_init 37 = .ok (.return_, 1) := by decide +kernel
theorem dX10_count_0 : decode cX10_count 0 = .ok (.aload_n 0, 1) := by decide +kernel
theorem dX10_count_1 : decode cX10_count 1 = .ok (.iconst 0, 1) := by decide +kernel
theorem dX10_count_2 : decode cX10_count 2 = .ok (.putfield 9, 3) := by decide +kernel
theorem dX10_count_5 : decode cX10_count 5 = .ok (.iconst 0, 1) := by decide +kernel
theorem dX10_count_6 : decode cX10_count 6 = .ok (.istore_n 3, 1) := by decide +kernel
theorem dX10_count_7 : decode cX10_count 7 = .ok (.iload_n 3, 1) := by decide +kernel
theorem dX10_count_8 : decode cX10_count 8 = .ok (.aload_n 2, 1) := by decide +kernel
theorem dX10_count_9 : decode cX10_count 9 = .ok (.getfield 27, 3) := by decide +kernel
theorem dX10_count_12 : decode cX10_count 12 = .ok (.if_icmp .ge 28, 3) := by decide +kernel
theorem dX10_count_15 : decode cX10_count 15 = .ok (.aload_n 2, 1) := by decide +kernel
theorem dX10_count_16 : decode cX10_count 16 = .ok (.getfield 32, 3) := by decide +kernel
theorem dX10_count_19 : decode cX10_count 19 = .ok (.iload_n 3, 1) := by decide +kernel
theorem dX10_count_20 : decode cX10_count 20 = .ok (.invokevirtual 35, 3) := by decide +kernel
theorem dX10_count_23 : decode cX10_count 23 = .ok (.iconst 2, 1) := by decide +kernel
theorem dX10_count_24 : decode cX10_count 24 = .ok (.if_icmp .eq 10, 3) := by decide +kernel
theorem dX10_count_27 : decode cX10_count 27 = .ok (.aload_n 0, 1) := by decide +kernel
theorem dX10_count_28 : decode cX10_count 28 = .ok (.iload_n 3, 1) := by decide +kernel
theorem dX10_count_29 : decode cX10_count 29 = .ok (.aload_n 1, 1) := by decide +kernel
theorem dX10_count_30 : decode cX10_count 30 = .ok (.aload_n 2, 1) := by decide +kernel
theorem dX10_count_31 : decode cX10_count 31 = .ok (.invokevirtual 39, 3) := by decide +kernel
theorem dX10_count_34 : decode cX10_count 34 = .ok (.iinc 3 1, 3) := by decide +kernel
theorem dX10_count_37 : decode cX10_count 37 = .ok (.goto (-30), 3) := by decide +kernel
theorem dX10_count_40 : decode cX10_count 40 = .ok (.return_, 1) := by decide +kernel
theorem dX10_countToken_0 : decode cX10_countToken 0 = .ok (.iconst 0, 1) := by decide +kernel
theorem dX10_countToken_1 : decode cX10_countToken 1 = .ok (.istore 4, 2) := by decide +kernel
theorem dX10_countToken_3 : decode cX10_countToken 3 = .ok (.iload 4, 2) := by decide +kernel
theorem dX10_countToken_5 : decode cX10_countToken 5 = .ok (.aload_n 0, 1) := by decide +kernel
theorem dX10_countToken_6 : decode cX10_countToken 6 = .ok (.getfield 9, 3) := by decide +kernel
theorem dX10_countToken_9 : decode cX10_countToken 9 = .ok (.if_icmp .ge 48, 3) := by decide +kernel
theorem dX10_countToken_12 : decode cX10_countToken 12 = .ok (.aload_n 0, 1) := by decide +kernel
theorem dX10_countToken_13 : decode cX10_countToken 13 = .ok (.getfield 20, 3) := by decide +kernel
theorem dX10_countToken_16 : decode cX10_countToken 16 = .ok (.iload 4, 2) := by decide +kernel
theorem dX10_countToken_18 : decode cX10_countToken 18 = .ok (.invokevirtual 35, 3) := by decide +kernel
theorem dX10_countToken_21 : decode cX10_countToken 21 = .ok (.iload_n 1, 1) := by decide +kernel
theorem dX10_countToken_22 : decode cX10_countToken 22 = .ok (.aload_n 2, 1) := by decide +kernel
theorem dX10_countToken_23 : decode cX10_countToken 23 = .ok (.aload_n 3, 1) := by decide +kernel
theorem dX10_countToken_24 : decode cX10_countToken 24 = .ok (.invokestatic 43, 3) := by decide +kernel
theorem dX10_countToken_27 : decode cX10_countToken 27 = .ok (.ifCond .eq 24, 3) := by decide +kernel
theorem dX10_countToken_30 : decode cX10_countToken 30 = .ok (.aload_n 0, 1) := by decide +kernel
theorem dX10_countToken_31 : decode cX10_countToken 31 = .ok (.getfield 24, 3) := by decide +kernel
theorem dX10_countToken_34 : decode cX10_countToken 34 = .ok (.iload 4, 2) := by decide +kernel
theorem dX10_countToken_36 : decode cX10_countToken 36 = .ok (.aload_n 0, 1) := by decide +kernel
theorem dX10_countToken_37 : decode cX10_countToken 37 = .ok (.getfield 24, 3) := by decide +kernel
theorem dX10_countToken_40 : decode cX10_countToken 40 = .ok (.iload 4, 2) := by decide +kernel
theorem dX10_countToken_42 : decode cX10_countToken 42 = .ok (.invokevirtual 35, 3) := by decide +kernel
theorem dX10_countToken_45 : decode cX10_countToken 45 = .ok (.iconst 1, 1) := by decide +kernel
theorem dX10_countToken_46 : decode cX10_countToken 46 = .ok (.iadd, 1) := by decide +kernel
theorem dX10_countToken_47 : decode cX10_countToken 47 = .ok (.invokevirtual 47, 3) := by decide +kernel
theorem dX10_countToken_50 : decode cX10_countToken 50 = .ok (.return_, 1) := by decide +kernel
theorem dX10_countToken_51 : decode cX10_countToken 51 = .ok (.iinc 4 1, 3) := by decide +kernel
theorem dX10_countToken_54 : decode cX10_countToken 54 = .ok (.goto (-51), 3) := by decide +kernel
theorem dX10_countToken_57 : decode cX10_countToken 57 = .ok (.aload_n 0, 1) := by decide +kernel
theorem dX10_countToken_58 : decode cX10_countToken 58 = .ok (.getfield 20, 3) := by decide +kernel
theorem dX10_countToken_61 : decode cX10_countToken 61 = .ok (.aload_n 0, 1) := by decide +kernel
theorem dX10_countToken_62 : decode cX10_countToken 62 = .ok (.getfield 9, 3) := by decide +kernel
theorem dX10_countToken_65 : decode cX10_countToken 65 = .ok (.iload_n 1, 1) := by decide +kernel
theorem dX10_countToken_66 : decode cX10_countToken 66 = .ok (.invokevirtual 47, 3) := by decide +kernel
theorem dX10_countToken_69 : decode cX10_countToken 69 = .ok (.aload_n 0, 1) := by decide +kernel
theorem dX10_countToken_70 : decode cX10_countToken 70 = .ok (.getfield 24, 3) := by decide +kernel
theorem dX10_countToken_73 : decode cX10_countToken 73 = .ok (.aload_n 0, 1) := by decide +kernel
theorem dX10_countToken_74 : decode cX10_countToken 74 = .ok (.getfield 9, 3) := by decide +kernel
theorem dX10_countToken_77 : decode cX10_countToken 77 = .ok (.iconst 1, 1) := by decide +kernel
theorem dX10_countToken_78 : decode cX10_countToken 78 = .ok (.invokevirtual 47, 3) := by decide +kernel
theorem dX10_countToken_81 : decode cX10_countToken 81 = .ok (.aload_n 0, 1) := by decide +kernel
theorem dX10_countToken_82 : decode cX10_countToken 82 = .ok (.dup, 1) := by decide +kernel
theorem dX10_countToken_83 : decode cX10_countToken 83 = .ok (.getfield 9, 3) := by decide +kernel
theorem dX10_countToken_86 : decode cX10_countToken 86 = .ok (.iconst 1, 1) := by decide +kernel
theorem dX10_countToken_87 : decode cX10_countToken 87 = .ok (.iadd, 1) := by decide +kernel
theorem dX10_countToken_88 : decode cX10_countToken 88 = .ok (.putfield 9, 3) := by decide +kernel
theorem dX10_countToken_91 : decode cX10_countToken 91 = .ok (.return_, 1) := by decide +kernel
theorem dX10_sameText_0 : decode cX10_sameText 0 = .ok (.aload_n 3, 1) := by decide +kernel
theorem dX10_sameText_1 : decode cX10_sameText 1 = .ok (.getfield 51, 3) := by decide +kernel
theorem dX10_sameText_4 : decode cX10_sameText 4 = .ok (.iload_n 0, 1) := by decide +kernel
theorem dX10_sameText_5 : decode cX10_sameText 5 = .ok (.invokevirtual 35, 3) := by decide +kernel
theorem dX10_sameText_8 : decode cX10_sameText 8 = .ok (.istore 4, 2) := by decide +kernel
theorem dX10_sameText_10 : decode cX10_sameText 10 = .ok (.iload 4, 2) := by decide +kernel
theorem dX10_sameText_12 : decode cX10_sameText 12 = .ok (.aload_n 3, 1) := by decide +kernel
theorem dX10_sameText_13 : decode cX10_sameText 13 = .ok (.getfield 51, 3) := by decide +kernel
theorem dX10_sameText_16 : decode cX10_sameText 16 = .ok (.iload_n 1, 1) := by decide +kernel
theorem dX10_sameText_17 : decode cX10_sameText 17 = .ok (.invokevirtual 35, 3) := by decide +kernel
theorem dX10_sameText_20 : decode cX10_sameText 20 = .ok (.if_icmp .eq 5, 3) := by decide +kernel
theorem dX10_sameText_23 : decode cX10_sameText 23 = .ok (.iconst 0, 1) := by decide +kernel
theorem dX10_sameText_24 : decode cX10_sameText 24 = .ok (.ireturn, 1) := by decide +kernel
theorem dX10_sameText_25 : decode cX10_sameText 25 = .ok (.iconst 0, 1) := by decide +kernel
theorem dX10_sameText_26 : decode cX10_sameText 26 = .ok (.istore 5, 2) := by decide +kernel
theorem dX10_sameText_28 : decode cX10_sameText 28 = .ok (.iload 5, 2) := by decide +kernel
theorem dX10_sameText_30 : decode cX10_sameText 30 = .ok (.iload 4, 2) := by decide +kernel
theorem dX10_sameText_32 : decode cX10_sameText 32 = .ok (.if_icmp .ge 60, 3) := by decide +kernel
theorem dX10_sameText_35 : decode cX10_sameText 35 = .ok (.aload_n 2, 1) := by decide +kernel
theorem dX10_sameText_36 : decode cX10_sameText 36 = .ok (.aload_n 3, 1) := by decide +kernel
theorem dX10_sameText_37 : decode cX10_sameText 37 = .ok (.getfield 54, 3) := by decide +kernel
theorem dX10_sameText_40 : decode cX10_sameText 40 = .ok (.iload_n 0, 1) := by decide +kernel
theorem dX10_sameText_41 : decode cX10_sameText 41 = .ok (.invokevirtual 35, 3) := by decide +kernel
theorem dX10_sameText_44 : decode cX10_sameText 44 = .ok (.aload_n 3, 1) := by decide +kernel
theorem dX10_sameText_45 : decode cX10_sameText 45 = .ok (.getfield 57, 3) := by decide +kernel
theorem dX10_sameText_48 : decode cX10_sameText 48 = .ok (.iload_n 0, 1) := by decide +kernel
theorem dX10_sameText_49 : decode cX10_sameText 49 = .ok (.invokevirtual 35, 3) := by decide +kernel
theorem dX10_sameText_52 : decode cX10_sameText 52 = .ok (.iload 5, 2) := by decide +kernel
theorem dX10_sameText_54 : decode cX10_sameText 54 = .ok (.iadd, 1) := by decide +kernel
theorem dX10_sameText_55 : decode cX10_sameText 55 = .ok (.invokevirtual 60, 3) := by decide +kernel
theorem dX10_sameText_58 : decode cX10_sameText 58 = .ok (.aload_n 2, 1) := by decide +kernel
theorem dX10_sameText_59 : decode cX10_sameText 59 = .ok (.aload_n 3, 1) := by decide +kernel
theorem dX10_sameText_60 : decode cX10_sameText 60 = .ok (.getfield 54, 3) := by decide +kernel
theorem dX10_sameText_63 : decode cX10_sameText 63 = .ok (.iload_n 1, 1) := by decide +kernel
theorem dX10_sameText_64 : decode cX10_sameText 64 = .ok (.invokevirtual 35, 3) := by decide +kernel
theorem dX10_sameText_67 : decode cX10_sameText 67 = .ok (.aload_n 3, 1) := by decide +kernel
theorem dX10_sameText_68 : decode cX10_sameText 68 = .ok (.getfield 57, 3) := by decide +kernel
theorem dX10_sameText_71 : decode cX10_sameText 71 = .ok (.iload_n 1, 1) := by decide +kernel
theorem dX10_sameText_72 : decode cX10_sameText 72 = .ok (.invokevirtual 35, 3) := by decide +kernel
theorem dX10_sameText_75 : decode cX10_sameText 75 = .ok (.iload 5, 2) := by decide +kernel
theorem dX10_sameText_77 : decode cX10_sameText 77 = .ok (.iadd, 1) := by decide +kernel
theorem dX10_sameText_78 : decode cX10_sameText 78 = .ok (.invokevirtual 60, 3) := by decide +kernel
theorem dX10_sameText_81 : decode cX10_sameText 81 = .ok (.if_icmp .eq 5, 3) := by decide +kernel
theorem dX10_sameText_84 : decode cX10_sameText 84 = .ok (.iconst 0, 1) := by decide +kernel
theorem dX10_sameText_85 : decode cX10_sameText 85 = .ok (.ireturn, 1) := by decide +kernel
theorem dX10_sameText_86 : decode cX10_sameText 86 = .ok (.iinc 5 1, 3) := by decide +kernel
theorem dX10_sameText_89 : decode cX10_sameText 89 = .ok (.goto (-61), 3) := by decide +kernel
theorem dX10_sameText_92 : decode cX10_sameText 92 = .ok (.iconst 1, 1) := by decide +kernel
theorem dX10_sameText_93 : decode cX10_sameText 93 = .ok (.ireturn, 1) := by decide +kernel
theorem dX10_commonest_0 : decode cX10_commonest 0 = .ok (.iconst (-1), 1) := by decide +kernel
theorem dX10_commonest_1 : decode cX10_commonest 1 = .ok (.istore_n 1, 1) := by decide +kernel
theorem dX10_commonest_2 : decode cX10_commonest 2 = .ok (.iconst 0, 1) := by decide +kernel
theorem dX10_commonest_3 : decode cX10_commonest 3 = .ok (.istore_n 2, 1) := by decide +kernel
theorem dX10_commonest_4 : decode cX10_commonest 4 = .ok (.iload_n 2, 1) := by decide +kernel
theorem dX10_commonest_5 : decode cX10_commonest 5 = .ok (.aload_n 0, 1) := by decide +kernel
theorem dX10_commonest_6 : decode cX10_commonest 6 = .ok (.getfield 9, 3) := by decide +kernel
theorem dX10_commonest_9 : decode cX10_commonest 9 = .ok (.if_icmp .ge 35, 3) := by decide +kernel
theorem dX10_commonest_12 : decode cX10_commonest 12 = .ok (.iload_n 1, 1) := by decide +kernel
theorem dX10_commonest_13 : decode cX10_commonest 13 = .ok (.iconst (-1), 1) := by decide +kernel
theorem dX10_commonest_14 : decode cX10_commonest 14 = .ok (.if_icmp .eq 22, 3) := by decide +kernel
theorem dX10_commonest_17 : decode cX10_commonest 17 = .ok (.aload_n 0, 1) := by decide +kernel
theorem dX10_commonest_18 : decode cX10_commonest 18 = .ok (.getfield 24, 3) := by decide +kernel
theorem dX10_commonest_21 : decode cX10_commonest 21 = .ok (.iload_n 2, 1) := by decide +kernel
theorem dX10_commonest_22 : decode cX10_commonest 22 = .ok (.invokevirtual 35, 3) := by decide +kernel
theorem dX10_commonest_25 : decode cX10_commonest 25 = .ok (.aload_n 0, 1) := by decide +kernel
theorem dX10_commonest_26 : decode cX10_commonest 26 = .ok (.getfield 24, 3) := by decide +kernel
theorem dX10_commonest_29 : decode cX10_commonest 29 = .ok (.iload_n 1, 1) := by decide +kernel
theorem dX10_commonest_30 : decode cX10_commonest 30 = .ok (.invokevirtual 35, 3) := by decide +kernel
theorem dX10_commonest_33 : decode cX10_commonest 33 = .ok (.if_icmp .le 5, 3) := by decide +kernel
theorem dX10_commonest_36 : decode cX10_commonest 36 = .ok (.iload_n 2, 1) := by decide +kernel
theorem dX10_commonest_37 : decode cX10_commonest 37 = .ok (.istore_n 1, 1) := by decide +kernel
theorem dX10_commonest_38 : decode cX10_commonest 38 = .ok (.iinc 2 1, 3) := by decide +kernel
theorem dX10_commonest_41 : decode cX10_commonest 41 = .ok (.goto (-37), 3) := by decide +kernel
theorem dX10_commonest_44 : decode cX10_commonest 44 = .ok (.iload_n 1, 1) := by decide +kernel
theorem dX10_commonest_45 : decode cX10_commonest 45 = .ok (.ireturn, 1) := by decide +kernel
theorem dJ6_bitCount_0f7a4_0 : decode cJ6_bitCount_0f7a4 0 = .ok (.iload_n 0, 1) := by decide +kernel
theorem dJ6_bitCount_0f7a4_1 : decode cJ6_bitCount_0f7a4 1 = .ok (.iload_n 0, 1) := by decide +kernel
theorem dJ6_bitCount_0f7a4_2 : decode cJ6_bitCount_0f7a4 2 = .ok (.iconst 1, 1) := by decide +kernel
theorem dJ6_bitCount_0f7a4_3 : decode cJ6_bitCount_0f7a4 3 = .ok (.iushr, 1) := by decide +kernel
theorem dJ6_bitCount_0f7a4_4 : decode cJ6_bitCount_0f7a4 4 = .ok (.ldc_w 265, 3) := by decide +kernel
theorem dJ6_bitCount_0f7a4_7 : decode cJ6_bitCount_0f7a4 7 = .ok (.iand, 1) := by decide +kernel
theorem dJ6_bitCount_0f7a4_8 : decode cJ6_bitCount_0f7a4 8 = .ok (.isub, 1) := by decide +kernel
theorem dJ6_bitCount_0f7a4_9 : decode cJ6_bitCount_0f7a4 9 = .ok (.istore_n 0, 1) := by decide +kernel
theorem dJ6_bitCount_0f7a4_10 : decode cJ6_bitCount_0f7a4 10 = .ok (.iload_n 0, 1) := by decide +kernel
theorem dJ6_bitCount_0f7a4_11 : decode cJ6_bitCount_0f7a4 11 = .ok (.ldc_w 266, 3) := by decide +kernel
theorem dJ6_bitCount_0f7a4_14 : decode cJ6_bitCount_0f7a4 14 = .ok (.iand, 1) := by decide +kernel
theorem dJ6_bitCount_0f7a4_15 : decode cJ6_bitCount_0f7a4 15 = .ok (.iload_n 0, 1) := by decide +kernel
theorem dJ6_bitCount_0f7a4_16 : decode cJ6_bitCount_0f7a4 16 = .ok (.iconst 2, 1) := by decide +kernel
theorem dJ6_bitCount_0f7a4_17 : decode cJ6_bitCount_0f7a4 17 = .ok (.iushr, 1) := by decide +kernel
theorem dJ6_bitCount_0f7a4_18 : decode cJ6_bitCount_0f7a4 18 = .ok (.ldc_w 266, 3) := by decide +kernel
theorem dJ6_bitCount_0f7a4_21 : decode cJ6_bitCount_0f7a4 21 = .ok (.iand, 1) := by decide +kernel
theorem dJ6_bitCount_0f7a4_22 : decode cJ6_bitCount_0f7a4 22 = .ok (.iadd, 1) := by decide +kernel
theorem dJ6_bitCount_0f7a4_23 : decode cJ6_bitCount_0f7a4 23 = .ok (.istore_n 0, 1) := by decide +kernel
theorem dJ6_bitCount_0f7a4_24 : decode cJ6_bitCount_0f7a4 24 = .ok (.iload_n 0, 1) := by decide +kernel
theorem dJ6_bitCount_0f7a4_25 : decode cJ6_bitCount_0f7a4 25 = .ok (.iload_n 0, 1) := by decide +kernel
theorem dJ6_bitCount_0f7a4_26 : decode cJ6_bitCount_0f7a4 26 = .ok (.iconst 4, 1) := by decide +kernel
theorem dJ6_bitCount_0f7a4_27 : decode cJ6_bitCount_0f7a4 27 = .ok (.iushr, 1) := by decide +kernel
theorem dJ6_bitCount_0f7a4_28 : decode cJ6_bitCount_0f7a4 28 = .ok (.iadd, 1) := by decide +kernel
theorem dJ6_bitCount_0f7a4_29 : decode cJ6_bitCount_0f7a4 29 = .ok (.ldc_w 267, 3) := by decide +kernel
theorem dJ6_bitCount_0f7a4_32 : decode cJ6_bitCount_0f7a4 32 = .ok (.iand, 1) := by decide +kernel
theorem dJ6_bitCount_0f7a4_33 : decode cJ6_bitCount_0f7a4 33 = .ok (.istore_n 0, 1) := by decide +kernel
theorem dJ6_bitCount_0f7a4_34 : decode cJ6_bitCount_0f7a4 34 = .ok (.iload_n 0, 1) := by decide +kernel
theorem dJ6_bitCount_0f7a4_35 : decode cJ6_bitCount_0f7a4 35 = .ok (.iload_n 0, 1) := by decide +kernel
theorem dJ6_bitCount_0f7a4_36 : decode cJ6_bitCount_0f7a4 36 = .ok (.bipush 8, 2) := by decide +kernel
theorem dJ6_bitCount_0f7a4_38 : decode cJ6_bitCount_0f7a4 38 = .ok (.iushr, 1) := by decide +kernel
theorem dJ6_bitCount_0f7a4_39 : decode cJ6_bitCount_0f7a4 39 = .ok (.iadd, 1) := by decide +kernel
theorem dJ6_bitCount_0f7a4_40 : decode cJ6_bitCount_0f7a4 40 = .ok (.istore_n 0, 1) := by decide +kernel
theorem dJ6_bitCount_0f7a4_41 : decode cJ6_bitCount_0f7a4 41 = .ok (.iload_n 0, 1) := by decide +kernel
theorem dJ6_bitCount_0f7a4_42 : decode cJ6_bitCount_0f7a4 42 = .ok (.iload_n 0, 1) := by decide +kernel
theorem dJ6_bitCount_0f7a4_43 : decode cJ6_bitCount_0f7a4 43 = .ok (.bipush 16, 2) := by decide +kernel
theorem dJ6_bitCount_0f7a4_45 : decode cJ6_bitCount_0f7a4 45 = .ok (.iushr, 1) := by decide +kernel
theorem dJ6_bitCount_0f7a4_46 : decode cJ6_bitCount_0f7a4 46 = .ok (.iadd, 1) := by decide +kernel
theorem dJ6_bitCount_0f7a4_47 : decode cJ6_bitCount_0f7a4 47 = .ok (.istore_n 0, 1) := by decide +kernel
theorem dJ6_bitCount_0f7a4_48 : decode cJ6_bitCount_0f7a4 48 = .ok (.iload_n 0, 1) := by decide +kernel
theorem dJ6_bitCount_0f7a4_49 : decode cJ6_bitCount_0f7a4 49 = .ok (.bipush 63, 2) := by decide +kernel
theorem dJ6_bitCount_0f7a4_51 : decode cJ6_bitCount_0f7a4 51 = .ok (.iand, 1) := by decide +kernel
theorem dJ6_bitCount_0f7a4_52 : decode cJ6_bitCount_0f7a4 52 = .ok (.ireturn, 1) := by decide +kernel
theorem dJ9_max_7cf53_0 : decode cJ9_max_7cf53 0 = .ok (.iload_n 0, 1) := by decide +kernel
theorem dJ9_max_7cf53_1 : decode cJ9_max_7cf53 1 = .ok (.iload_n 1, 1) := by decide +kernel
theorem dJ9_max_7cf53_2 : decode cJ9_max_7cf53 2 = .ok (.if_icmp .lt 7, 3) := by decide +kernel
theorem dJ9_max_7cf53_5 : decode cJ9_max_7cf53 5 = .ok (.iload_n 0, 1) := by decide +kernel
theorem dJ9_max_7cf53_6 : decode cJ9_max_7cf53 6 = .ok (.goto 4, 3) := by decide +kernel
theorem dJ9_max_7cf53_9 : decode cJ9_max_7cf53 9 = .ok (.iload_n 1, 1) := by decide +kernel
theorem dJ9_max_7cf53_10 : decode cJ9_max_7cf53 10 = .ok (.ireturn, 1) := by decide +kernel
theorem dJ9_min_7cf53_0 : decode cJ9_min_7cf53 0 = .ok (.iload_n 0, 1) := by decide +kernel
theorem dJ9_min_7cf53_1 : decode cJ9_min_7cf53 1 = .ok (.iload_n 1, 1) := by decide +kernel
theorem dJ9_min_7cf53_2 : decode cJ9_min_7cf53 2 = .ok (.if_icmp .gt 7, 3) := by decide +kernel
theorem dJ9_min_7cf53_5 : decode cJ9_min_7cf53 5 = .ok (.iload_n 0, 1) := by decide +kernel
theorem dJ9_min_7cf53_6 : decode cJ9_min_7cf53 6 = .ok (.goto 4, 3) := by decide +kernel
theorem dJ9_min_7cf53_9 : decode cJ9_min_7cf53 9 = .ok (.iload_n 1, 1) := by decide +kernel
theorem dJ9_min_7cf53_10 : decode cJ9_min_7cf53 10 = .ok (.ireturn, 1) := by decide +kernel
theorem dJ0_length_8abf5_0 : decode cJ0_length_8abf5 0 = .ok (.aload_n 0, 1) := by decide +kernel
theorem dJ0_length_8abf5_1 : decode cJ0_length_8abf5 1 = .ok (.getfield 9, 3) := by decide +kernel
theorem dJ0_length_8abf5_4 : decode cJ0_length_8abf5 4 = .ok (.arraylength, 1) := by decide +kernel
theorem dJ0_length_8abf5_5 : decode cJ0_length_8abf5 5 = .ok (.aload_n 0, 1) := by decide +kernel
theorem dJ0_length_8abf5_6 : decode cJ0_length_8abf5 6 = .ok (.invokevirtual 335, 3) := by decide +kernel
theorem dJ0_length_8abf5_9 : decode cJ0_length_8abf5 9 = .ok (.ishr, 1) := by decide +kernel
theorem dJ0_length_8abf5_10 : decode cJ0_length_8abf5 10 = .ok (.ireturn, 1) := by decide +kernel
theorem dJ0_charAt_5068e_0 : decode cJ0_charAt_5068e 0 = .ok (.aload_n 0, 1) := by decide +kernel
theorem dJ0_charAt_5068e_1 : decode cJ0_charAt_5068e 1 = .ok (.invokevirtual 492, 3) := by decide +kernel
theorem dJ0_charAt_5068e_4 : decode cJ0_charAt_5068e 4 = .ok (.ifCond .eq 12, 3) := by decide +kernel
theorem dJ0_charAt_5068e_7 : decode cJ0_charAt_5068e 7 = .ok (.aload_n 0, 1) := by decide +kernel
theorem dJ0_charAt_5068e_8 : decode cJ0_charAt_5068e 8 = .ok (.getfield 9, 3) := by decide +kernel
theorem dJ0_charAt_5068e_11 : decode cJ0_charAt_5068e 11 = .ok (.iload_n 1, 1) := by decide +kernel
theorem dJ0_charAt_5068e_12 : decode cJ0_charAt_5068e 12 = .ok (.invokestatic 495, 3) := by decide +kernel
theorem dJ0_charAt_5068e_15 : decode cJ0_charAt_5068e 15 = .ok (.ireturn, 1) := by decide +kernel
theorem dJ0_charAt_5068e_16 : decode cJ0_charAt_5068e 16 = .ok (.aload_n 0, 1) := by decide +kernel
theorem dJ0_charAt_5068e_17 : decode cJ0_charAt_5068e 17 = .ok (.getfield 9, 3) := by decide +kernel
theorem dJ0_charAt_5068e_20 : decode cJ0_charAt_5068e 20 = .ok (.iload_n 1, 1) := by decide +kernel
theorem dJ0_charAt_5068e_21 : decode cJ0_charAt_5068e 21 = .ok (.invokestatic 498, 3) := by decide +kernel
theorem dJ0_charAt_5068e_24 : decode cJ0_charAt_5068e 24 = .ok (.ireturn, 1) := by decide +kernel
theorem dJ0_coder_7d493_0 : decode cJ0_coder_7d493 0 = .ok (.getstatic 38, 3) := by decide +kernel
theorem dJ0_coder_7d493_3 : decode cJ0_coder_7d493 3 = .ok (.ifCond .eq 10, 3) := by decide +kernel
theorem dJ0_coder_7d493_6 : decode cJ0_coder_7d493 6 = .ok (.aload_n 0, 1) := by decide +kernel
theorem dJ0_coder_7d493_7 : decode cJ0_coder_7d493 7 = .ok (.getfield 15, 3) := by decide +kernel
theorem dJ0_coder_7d493_10 : decode cJ0_coder_7d493 10 = .ok (.goto 4, 3) := by decide +kernel
theorem dJ0_coder_7d493_13 : decode cJ0_coder_7d493 13 = .ok (.iconst 1, 1) := by decide +kernel
theorem dJ0_coder_7d493_14 : decode cJ0_coder_7d493 14 = .ok (.ireturn, 1) := by decide +kernel
theorem dJ0_isLatin1_aae02_0 : decode cJ0_isLatin1_aae02 0 = .ok (.getstatic 38, 3) := by decide +kernel
theorem dJ0_isLatin1_aae02_3 : decode cJ0_isLatin1_aae02 3 = .ok (.ifCond .eq 14, 3) := by decide +kernel
theorem dJ0_isLatin1_aae02_6 : decode cJ0_isLatin1_aae02 6 = .ok (.aload_n 0, 1) := by decide +kernel
theorem dJ0_isLatin1_aae02_7 : decode cJ0_isLatin1_aae02 7 = .ok (.getfield 15, 3) := by decide +kernel
theorem dJ0_isLatin1_aae02_10 : decode cJ0_isLatin1_aae02 10 = .ok (.ifCond .ne 7, 3) := by decide +kernel
theorem dJ0_isLatin1_aae02_13 : decode cJ0_isLatin1_aae02 13 = .ok (.iconst 1, 1) := by decide +kernel
theorem dJ0_isLatin1_aae02_14 : decode cJ0_isLatin1_aae02 14 = .ok (.goto 4, 3) := by decide +kernel
theorem dJ0_isLatin1_aae02_17 : decode cJ0_isLatin1_aae02 17 = .ok (.iconst 0, 1) := by decide +kernel
theorem dJ0_isLatin1_aae02_18 : decode cJ0_isLatin1_aae02 18 = .ok (.ireturn, 1) := by decide +kernel
theorem dJ0_checkIndex_df160_0 : decode cJ0_checkIndex_df160 0 = .ok (.iload_n 0, 1) := by decide +kernel
theorem dJ0_checkIndex_df160_1 : decode cJ0_checkIndex_df160 1 = .ok (.iload_n 1, 1) := by decide +kernel
theorem dJ0_checkIndex_df160_2 : decode cJ0_checkIndex_df160 2 = .ok (.getstatic 1053, 3) := by decide +kernel
theorem dJ0_checkIndex_df160_5 : decode cJ0_checkIndex_df160 5 = .ok (.invokestatic 1059, 3) := by decide +kernel
theorem dJ0_checkIndex_df160_8 : decode cJ0_checkIndex_df160 8 = .ok (.pop, 1) := by decide +kernel
theorem dJ0_checkIndex_df160_9 : decode cJ0_checkIndex_df160 9 = .ok (.return_, 1) := by decide +kernel
theorem dJ1_charAt_3b067_0 : decode cJ1_charAt_3b067 0 = .ok (.iload_n 1, 1) := by decide +kernel
theorem dJ1_charAt_3b067_1 : decode cJ1_charAt_3b067 1 = .ok (.aload_n 0, 1) := by decide +kernel
theorem dJ1_charAt_3b067_2 : decode cJ1_charAt_3b067 2 = .ok (.arraylength, 1) := by decide +kernel
theorem dJ1_charAt_3b067_3 : decode cJ1_charAt_3b067 3 = .ok (.invokestatic 9, 3) := by decide +kernel
theorem dJ1_charAt_3b067_6 : decode cJ1_charAt_3b067 6 = .ok (.aload_n 0, 1) := by decide +kernel
theorem dJ1_charAt_3b067_7 : decode cJ1_charAt_3b067 7 = .ok (.iload_n 1, 1) := by decide +kernel
theorem dJ1_charAt_3b067_8 : decode cJ1_charAt_3b067 8 = .ok (.baload, 1) := by decide +kernel
theorem dJ1_charAt_3b067_9 : decode cJ1_charAt_3b067 9 = .ok (.sipush 255, 3) := by decide +kernel
theorem dJ1_charAt_3b067_12 : decode cJ1_charAt_3b067 12 = .ok (.iand, 1) := by decide +kernel
theorem dJ1_charAt_3b067_13 : decode cJ1_charAt_3b067 13 = .ok (.i2c, 1) := by decide +kernel
theorem dJ1_charAt_3b067_14 : decode cJ1_charAt_3b067 14 = .ok (.ireturn, 1) := by decide +kernel
theorem dJ2_getChar_3b067_0 : decode cJ2_getChar_3b067 0 = .ok (.getstatic 44, 3) := by decide +kernel
theorem dJ2_getChar_3b067_3 : decode cJ2_getChar_3b067 3 = .ok (.ifCond .ne 25, 3) := by decide +kernel
theorem dJ2_getChar_3b067_6 : decode cJ2_getChar_3b067 6 = .ok (.iload_n 1, 1) := by decide +kernel
theorem dJ2_getChar_3b067_7 : decode cJ2_getChar_3b067 7 = .ok (.ifCond .lt 11, 3) := by decide +kernel
theorem dJ2_getChar_3b067_10 : decode cJ2_getChar_3b067 10 = .ok (.iload_n 1, 1) := by decide +kernel
theorem dJ2_getChar_3b067_11 : decode cJ2_getChar_3b067 11 = .ok (.aload_n 0, 1) := by decide +kernel
theorem dJ2_getChar_3b067_12 : decode cJ2_getChar_3b067 12 = .ok (.invokestatic 48, 3) := by decide +kernel
theorem dJ2_getChar_3b067_15 : decode cJ2_getChar_3b067 15 = .ok (.if_icmp .lt 13, 3) := by decide +kernel
theorem dJ2_getChar_3b067_18 : decode cJ2_getChar_3b067 18 = .ok (.new 52, 3) := by decide +kernel
theorem dJ2_getChar_3b067_21 : decode cJ2_getChar_3b067 21 = .ok (.dup, 1) := by decide +kernel
theorem dJ2_getChar_3b067_22 : decode cJ2_getChar_3b067 22 = .ok (.ldc 54, 2) := by decide +kernel
theorem dJ2_getChar_3b067_24 : decode cJ2_getChar_3b067 24 = .ok (.invokespecial 56, 3) := by decide +kernel
theorem dJ2_getChar_3b067_27 : decode cJ2_getChar_3b067 27 = .ok (.athrow, 1) := by decide +kernel
theorem dJ2_getChar_3b067_28 : decode cJ2_getChar_3b067 28 = .ok (.iload_n 1, 1) := by decide +kernel
theorem dJ2_getChar_3b067_29 : decode cJ2_getChar_3b067 29 = .ok (.iconst 1, 1) := by decide +kernel
theorem dJ2_getChar_3b067_30 : decode cJ2_getChar_3b067 30 = .ok (.ishl, 1) := by decide +kernel
theorem dJ2_getChar_3b067_31 : decode cJ2_getChar_3b067 31 = .ok (.istore_n 1, 1) := by decide +kernel
theorem dJ2_getChar_3b067_32 : decode cJ2_getChar_3b067 32 = .ok (.aload_n 0, 1) := by decide +kernel
theorem dJ2_getChar_3b067_33 : decode cJ2_getChar_3b067 33 = .ok (.iload_n 1, 1) := by decide +kernel
theorem dJ2_getChar_3b067_34 : decode cJ2_getChar_3b067 34 = .ok (.iinc 1 1, 3) := by decide +kernel
theorem dJ2_getChar_3b067_37 : decode cJ2_getChar_3b067 37 = .ok (.baload, 1) := by decide +kernel
theorem dJ2_getChar_3b067_38 : decode cJ2_getChar_3b067 38 = .ok (.sipush 255, 3) := by decide +kernel
theorem dJ2_getChar_3b067_41 : decode cJ2_getChar_3b067 41 = .ok (.iand, 1) := by decide +kernel
theorem dJ2_getChar_3b067_42 : decode cJ2_getChar_3b067 42 = .ok (.getstatic 59, 3) := by decide +kernel
theorem dJ2_getChar_3b067_45 : decode cJ2_getChar_3b067 45 = .ok (.ishl, 1) := by decide +kernel
theorem dJ2_getChar_3b067_46 : decode cJ2_getChar_3b067 46 = .ok (.aload_n 0, 1) := by decide +kernel
theorem dJ2_getChar_3b067_47 : decode cJ2_getChar_3b067 47 = .ok (.iload_n 1, 1) := by decide +kernel
theorem dJ2_getChar_3b067_48 : decode cJ2_getChar_3b067 48 = .ok (.baload, 1) := by decide +kernel
theorem dJ2_getChar_3b067_49 : decode cJ2_getChar_3b067 49 = .ok (.sipush 255, 3) := by decide +kernel
theorem dJ2_getChar_3b067_52 : decode cJ2_getChar_3b067 52 = .ok (.iand, 1) := by decide +kernel
theorem dJ2_getChar_3b067_53 : decode cJ2_getChar_3b067 53 = .ok (.getstatic 63, 3) := by decide +kernel
theorem dJ2_getChar_3b067_56 : decode cJ2_getChar_3b067 56 = .ok (.ishl, 1) := by decide +kernel
theorem dJ2_getChar_3b067_57 : decode cJ2_getChar_3b067 57 = .ok (.ior, 1) := by decide +kernel
theorem dJ2_getChar_3b067_58 : decode cJ2_getChar_3b067 58 = .ok (.i2c, 1) := by decide +kernel
theorem dJ2_getChar_3b067_59 : decode cJ2_getChar_3b067 59 = .ok (.ireturn, 1) := by decide +kernel
theorem dJ2_length_9d52b_0 : decode cJ2_length_9d52b 0 = .ok (.aload_n 0, 1) := by decide +kernel
theorem dJ2_length_9d52b_1 : decode cJ2_length_9d52b 1 = .ok (.arraylength, 1) := by decide +kernel
theorem dJ2_length_9d52b_2 : decode cJ2_length_9d52b 2 = .ok (.iconst 1, 1) := by decide +kernel
theorem dJ2_length_9d52b_3 : decode cJ2_length_9d52b 3 = .ok (.ishr, 1) := by decide +kernel
theorem dJ2_length_9d52b_4 : decode cJ2_length_9d52b 4 = .ok (.ireturn, 1) := by decide +kernel
theorem dJ2_charAt_3b067_0 : decode cJ2_charAt_3b067 0 = .ok (.iload_n 1, 1) := by decide +kernel
theorem dJ2_charAt_3b067_1 : decode cJ2_charAt_3b067 1 = .ok (.aload_n 0, 1) := by decide +kernel
theorem dJ2_charAt_3b067_2 : decode cJ2_charAt_3b067 2 = .ok (.invokestatic 67, 3) := by decide +kernel
theorem dJ2_charAt_3b067_5 : decode cJ2_charAt_3b067 5 = .ok (.aload_n 0, 1) := by decide +kernel
theorem dJ2_charAt_3b067_6 : decode cJ2_charAt_3b067 6 = .ok (.iload_n 1, 1) := by decide +kernel
theorem dJ2_charAt_3b067_7 : decode cJ2_charAt_3b067 7 = .ok (.invokestatic 71, 3) := by decide +kernel
theorem dJ2_charAt_3b067_10 : decode cJ2_charAt_3b067 10 = .ok (.ireturn, 1) := by decide +kernel
theorem dJ2_checkIndex_2214a_0 : decode cJ2_checkIndex_2214a 0 = .ok (.iload_n 0, 1) := by decide +kernel
theorem dJ2_checkIndex_2214a_1 : decode cJ2_checkIndex_2214a 1 = .ok (.aload_n 1, 1) := by decide +kernel
theorem dJ2_checkIndex_2214a_2 : decode cJ2_checkIndex_2214a 2 = .ok (.invokestatic 48, 3) := by decide +kernel
theorem dJ2_checkIndex_2214a_5 : decode cJ2_checkIndex_2214a 5 = .ok (.invokestatic 414, 3) := by decide +kernel
theorem dJ2_checkIndex_2214a_8 : decode cJ2_checkIndex_2214a 8 = .ok (.return_, 1) := by decide +kernel
theorem dJ3_checkIndex_8e157_0 : decode cJ3_checkIndex_8e157 0 = .ok (.iload_n 0, 1) := by decide +kernel
theorem dJ3_checkIndex_8e157_1 : decode cJ3_checkIndex_8e157 1 = .ok (.ifCond .lt 8, 3) := by decide +kernel
theorem dJ3_checkIndex_8e157_4 : decode cJ3_checkIndex_8e157 4 = .ok (.iload_n 0, 1) := by decide +kernel
theorem dJ3_checkIndex_8e157_5 : decode cJ3_checkIndex_8e157 5 = .ok (.iload_n 1, 1) := by decide +kernel
theorem dJ3_checkIndex_8e157_6 : decode cJ3_checkIndex_8e157 6 = .ok (.if_icmp .lt 10, 3) := by decide +kernel
theorem dJ3_checkIndex_8e157_9 : decode cJ3_checkIndex_8e157 9 = .ok (.aload_n 2, 1) := by decide +kernel
theorem dJ3_checkIndex_8e157_10 : decode cJ3_checkIndex_8e157 10 = .ok (.iload_n 0, 1) := by decide +kernel
theorem dJ3_checkIndex_8e157_11 : decode cJ3_checkIndex_8e157 11 = .ok (.iload_n 1, 1) := by decide +kernel
theorem dJ3_checkIndex_8e157_12 : decode cJ3_checkIndex_8e157 12 = .ok (.invokestatic 95, 3) := by decide +kernel
theorem dJ3_checkIndex_8e157_15 : decode cJ3_checkIndex_8e157 15 = .ok (.athrow, 1) := by decide +kernel
theorem dJ3_checkIndex_8e157_16 : decode cJ3_checkIndex_8e157 16 = .ok (.iload_n 0, 1) := by decide +kernel
theorem dJ3_checkIndex_8e157_17 : decode cJ3_checkIndex_8e157 17 = .ok (.ireturn, 1) := by decide +kernel
