theorem dX11_init_0 : decode cX11_init 0 = .ok (.aload_n 0, 1) := by decide +kernel
theorem dX11_init_1 : decode cX11_init 1 = .ok (.invokespecial 3, 3) := by decide +kernel
theorem dX11_init_4 : decode cX11_init 4 = .ok (.aload_n 0, 1) := by decide +kernel
theorem dX11_init_5 : decode cX11_init 5 = .ok (.new 9, 3) := by decide +kernel
theorem dX11_init_8 : decode cX11_init 8 = .ok (.dup, 1) := by decide +kernel
theorem dX11_init_9 : decode cX11_init 9 = .ok (.invokespecial 11, 3) := by decide +kernel
theorem dX11_init_12 : decode cX11_init 12 = .ok (.putfield 12, 3) := by decide +kernel
theorem dX11_init_15 : decode cX11_init 15 = .ok (.aload_n 0, 1) := by decide +kernel
theorem dX11_init_16 : decode cX11_init 16 = .ok (.new 16, 3) := by decide +kernel
theorem dX11_init_19 : decode cX11_init 19 = .ok (.dup, 1) := by decide +kernel
theorem dX11_init_20 : decode cX11_init 20 = .ok (.invokespecial 18, 3) := by decide +kernel
theorem dX11_init_23 : decode cX11_init 23 = .ok (.putfield 19, 3) := by decide +kernel
theorem dX11_init_26 : decode cX11_init 26 = .ok (.aload_n 0, 1) := by decide +kernel
theorem dX11_init_27 : decode cX11_init 27 = .ok (.new 23, 3) := by decide +kernel
theorem dX11_init_30 : decode cX11_init 30 = .ok (.dup, 1) := by decide +kernel
theorem dX11_init_31 : decode cX11_init 31 = .ok (.invokespecial 25, 3) := by decide +kernel
theorem dX11_init_34 : decode cX11_init 34 = .ok (.putfield 26, 3) := by decide +kernel
theorem dX11_init_37 : decode cX11_init 37 = .ok (.aload_n 0, 1) := by decide +kernel
theorem dX11_init_38 : decode cX11_init 38 = .ok (.new 30, 3) := by decide +kernel
theorem dX11_init_41 : decode cX11_init 41 = .ok (.dup, 1) := by decide +kernel
theorem dX11_init_42 : decode cX11_init 42 = .ok (.invokespecial 32, 3) := by decide +kernel
theorem dX11_init_45 : decode cX11_init 45 = .ok (.putfield 33, 3) := by decide +kernel
theorem dX11_init_48 : decode cX11_init 48 = .ok (.aload_n 0, 1) := by decide +kernel
theorem dX11_init_49 : decode cX11_init 49 = .ok (.iconst 2, 1) := by decide +kernel
theorem dX11_init_50 : decode cX11_init 50 = .ok (.anewarray 9, 3) := by decide +kernel
theorem dX11_init_53 : decode cX11_init 53 = .ok (.dup, 1) := by decide +kernel
theorem dX11_init_54 : decode cX11_init 54 = .ok (.iconst 0, 1) := by decide +kernel
theorem dX11_init_55 : decode cX11_init 55 = .ok (.new 9, 3) := by decide +kernel
theorem dX11_init_58 : decode cX11_init 58 = .ok (.dup, 1) := by decide +kernel
theorem dX11_init_59 : decode cX11_init 59 = .ok (.invokespecial 11, 3) := by decide +kernel
theorem dX11_init_62 : decode cX11_init 62 = .ok (.aastore, 1) := by decide +kernel
theorem dX11_init_63 : decode cX11_init 63 = .ok (.dup, 1) := by decide +kernel
theorem dX11_init_64 : decode cX11_init 64 = .ok (.iconst 1, 1) := by decide +kernel
theorem dX11_init_65 : decode cX11_init 65 = .ok (.new 9, 3) := by decide +kernel
theorem dX11_init_68 : decode cX11_init 68 = .ok (.dup, 1) := by decide +kernel
theorem dX11_init_69 : decode cX11_init 69 = .ok (.invokespecial 11, 3) := by decide +kernel
theorem dX11_init_72 : decode cX11_init 72 = .ok (.aastore, 1) := by decide +kernel
theorem dX11_init_73 : decode cX11_init 73 = .ok (.putfield 37, 3) := by decide +kernel
theorem dX11_init_76 : decode cX11_init 76 = .ok (.aload_n 0, 1) := by decide +kernel
theorem dX11_init_77 : decode cX11_init 77 = .ok (.new 41, 3) := by decide +kernel
theorem dX11_init_80 : decode cX11_init 80 = .ok (.dup, 1) := by decide +kernel
theorem dX11_init_81 : decode cX11_init 81 = .ok (.iconst 2, 1) := by decide +kernel
theorem dX11_init_82 : decode cX11_init 82 = .ok (.invokespecial 43, 3) := by decide +kernel
theorem dX11_init_85 : decode cX11_init 85 = .ok (.putfield 46, 3) := by decide +kernel
theorem dX11_init_88 : decode cX11_init 88 = .ok (.aload_n 0, 1) := by decide +kernel
theorem dX11_init_89 : decode cX11_init 89 = .ok (.new 50, 3) := by decide +kernel
theorem dX11_init_92 : decode cX11_init 92 = .ok (.dup, 1) := by decide +kernel
theorem dX11_init_93 : decode cX11_init 93 = .ok (.invokespecial 52, 3) := by decide +kernel
theorem dX11_init_96 : decode cX11_init 96 = .ok (.putfield 53, 3) := by decide +kernel
theorem dX11_init_99 : decode cX11_init 99 = .ok (.aload_n 0, 1) := by decide +kernel
theorem dX11_init_100 : decode cX11_init 100 = .ok (.new 57, 3) := by decide +kernel
theorem dX11_init_103 : decode cX11_init 103 = .ok (.dup, 1) := by decide +kernel
theorem dX11_init_104 : decode cX11_init 104 = .ok (.invokespecial 59, 3) := by decide +kernel
theorem dX11_init_107 : decode cX11_init 107 = .ok (.putfield 60, 3) := by decide +kernel
theorem dX11_init_110 : decode cX11_init 110 = .ok (.aload_n 0, 1) := by decide +kernel
theorem dX11_init_111 : decode cX11_init 111 = .ok (.new 64, 3) := by decide +kernel
theorem dX11_init_114 : decode cX11_init 114 = .ok (.dup, 1) := by decide +kernel
theorem dX11_init_115 : decode cX11_init 115 = .ok (.invokespecial 66, 3) := by decide +kernel
theorem dX11_init_118 : decode cX11_init 118 = .ok (.putfield 67, 3) := by decide +kernel
theorem dX11_init_121 : decode cX11_init 121 = .ok (.aload_n 0, 1) := by decide +kernel
theorem dX11_init_122 : decode cX11_init 122 = .ok (.new 71, 3) := by decide +kernel
theorem dX11_init_125 : decode cX11_init 125 = .ok (.dup, 1) := by decide +kernel
theorem dX11_init_126 : decode cX11_init 126 = .ok (.invokespecial 73, 3) := by decide +kernel
theorem dX11_init_129 : decode cX11_init 129 = .ok (.putfield 74, 3) := by decide +kernel
theorem dX11_init_132 : decode cX11_init 132 = .ok (.aload_n 0, 1) := by decide +kernel
theorem dX11_init_133 : decode cX11_init 133 = .ok (.new 41, 3) := by decide +kernel
theorem dX11_init_136 : decode cX11_init 136 = .ok (.dup, 1) := by decide +kernel
theorem dX11_init_137 : decode cX11_init 137 = .ok (.bipush 20, 2) := by decide +kernel
theorem dX11_init_139 : decode cX11_init 139 = .ok (.invokespecial 43, 3) := by decide +kernel
theorem dX11_init_142 : decode cX11_init 142 = .ok (.putfield 78, 3) := by decide +kernel
theorem dX11_init_145 : decode cX11_init 145 = .ok (.aload_n 0, 1) := by decide +kernel
theorem dX11_init_146 : decode cX11_init 146 = .ok (.iconst 0, 1) := by decide +kernel
theorem dX11_init_147 : decode cX11_init 147 = .ok (.putfield 81, 3) := by decide +kernel
theorem dX11_init_150 : decode cX11_init 150 = .ok (.return_, 1) := by decide +kernel
theorem dX11_type_0 : decode cX11_type 0 = .ok (.iload_n 1, 1) := by decide +kernel
theorem dX11_type_1 : decode cX11_type 1 = .ok (.bipush 32, 2) := by decide +kernel
theorem dX11_type_3 : decode cX11_type 3 = .ok (.bipush 126, 2) := by decide +kernel
theorem dX11_type_5 : decode cX11_type 5 = .ok (.invokestatic 85, 3) := by decide +kernel
theorem dX11_type_8 : decode cX11_type 8 = .ok (.ifCond .ne 5, 3) := by decide +kernel
theorem dX11_type_11 : decode cX11_type 11 = .ok (.iconst (-1), 1) := by decide +kernel
theorem dX11_type_12 : decode cX11_type 12 = .ok (.ireturn, 1) := by decide +kernel
theorem dX11_type_13 : decode cX11_type 13 = .ok (.aload_n 0, 1) := by decide +kernel
theorem dX11_type_14 : decode cX11_type 14 = .ok (.getfield 19, 3) := by decide +kernel
theorem dX11_type_17 : decode cX11_type 17 = .ok (.getfield 89, 3) := by decide +kernel
theorem dX11_type_20 : decode cX11_type 20 = .ok (.bipush 72, 2) := by decide +kernel
theorem dX11_type_22 : decode cX11_type 22 = .ok (.if_icmp .lt 6, 3) := by decide +kernel
theorem dX11_type_25 : decode cX11_type 25 = .ok (.bipush (-3), 2) := by decide +kernel
theorem dX11_type_27 : decode cX11_type 27 = .ok (.ireturn, 1) := by decide +kernel
theorem dX11_type_28 : decode cX11_type 28 = .ok (.aload_n 0, 1) := by decide +kernel
theorem dX11_type_29 : decode cX11_type 29 = .ok (.getfield 19, 3) := by decide +kernel
theorem dX11_type_32 : decode cX11_type 32 = .ok (.iload_n 1, 1) := by decide +kernel
theorem dX11_type_33 : decode cX11_type 33 = .ok (.invokevirtual 93, 3) := by decide +kernel
theorem dX11_type_36 : decode cX11_type 36 = .ok (.aload_n 0, 1) := by decide +kernel
theorem dX11_type_37 : decode cX11_type 37 = .ok (.getfield 19, 3) := by decide +kernel
theorem dX11_type_40 : decode cX11_type 40 = .ok (.getfield 89, 3) := by decide +kernel
theorem dX11_type_43 : decode cX11_type 43 = .ok (.ireturn, 1) := by decide +kernel
theorem dX11_clear_0 : decode cX11_clear 0 = .ok (.aload_n 0, 1) := by decide +kernel
theorem dX11_clear_1 : decode cX11_clear 1 = .ok (.getfield 19, 3) := by decide +kernel
theorem dX11_clear_4 : decode cX11_clear 4 = .ok (.getfield 89, 3) := by decide +kernel
theorem dX11_clear_7 : decode cX11_clear 7 = .ok (.istore_n 1, 1) := by decide +kernel
theorem dX11_clear_8 : decode cX11_clear 8 = .ok (.aload_n 0, 1) := by decide +kernel
theorem dX11_clear_9 : decode cX11_clear 9 = .ok (.getfield 19, 3) := by decide +kernel
theorem dX11_clear_12 : decode cX11_clear 12 = .ok (.iconst 0, 1) := by decide +kernel
theorem dX11_clear_13 : decode cX11_clear 13 = .ok (.putfield 89, 3) := by decide +kernel
theorem dX11_clear_16 : decode cX11_clear 16 = .ok (.iload_n 1, 1) := by decide +kernel
theorem dX11_clear_17 : decode cX11_clear 17 = .ok (.ireturn, 1) := by decide +kernel
theorem dX11_insertLine_0 : decode cX11_insertLine 0 = .ok (.iload_n 1, 1) := by decide +kernel
theorem dX11_insertLine_1 : decode cX11_insertLine 1 = .ok (.iconst 0, 1) := by decide +kernel
theorem dX11_insertLine_2 : decode cX11_insertLine 2 = .ok (.aload_n 0, 1) := by decide +kernel
theorem dX11_insertLine_3 : decode cX11_insertLine 3 = .ok (.getfield 12, 3) := by decide +kernel
theorem dX11_insertLine_6 : decode cX11_insertLine 6 = .ok (.getfield 96, 3) := by decide +kernel
theorem dX11_insertLine_9 : decode cX11_insertLine 9 = .ok (.getfield 100, 3) := by decide +kernel
theorem dX11_insertLine_12 : decode cX11_insertLine 12 = .ok (.invokestatic 85, 3) := by decide +kernel
theorem dX11_insertLine_15 : decode cX11_insertLine 15 = .ok (.ifCond .ne 5, 3) := by decide +kernel
theorem dX11_insertLine_18 : decode cX11_insertLine 18 = .ok (.iconst (-1), 1) := by decide +kernel
theorem dX11_insertLine_19 : decode cX11_insertLine 19 = .ok (.ireturn, 1) := by decide +kernel
theorem dX11_insertLine_20 : decode cX11_insertLine 20 = .ok (.aload_n 0, 1) := by decide +kernel
theorem dX11_insertLine_21 : decode cX11_insertLine 21 = .ok (.getfield 12, 3) := by decide +kernel
theorem dX11_insertLine_24 : decode cX11_insertLine 24 = .ok (.getfield 96, 3) := by decide +kernel
theorem dX11_insertLine_27 : decode cX11_insertLine 27 = .ok (.getfield 100, 3) := by decide +kernel
theorem dX11_insertLine_30 : decode cX11_insertLine 30 = .ok (.bipush 20, 2) := by decide +kernel
theorem dX11_insertLine_32 : decode cX11_insertLine 32 = .ok (.if_icmp .ge 13, 3) := by decide +kernel
theorem dX11_insertLine_35 : decode cX11_insertLine 35 = .ok (.aload_n 0, 1) := by decide +kernel
theorem dX11_insertLine_36 : decode cX11_insertLine 36 = .ok (.getfield 19, 3) := by decide +kernel
theorem dX11_insertLine_39 : decode cX11_insertLine 39 = .ok (.invokevirtual 103, 3) := by decide +kernel
theorem dX11_insertLine_42 : decode cX11_insertLine 42 = .ok (.ifCond .ne 6, 3) := by decide +kernel
theorem dX11_insertLine_45 : decode cX11_insertLine 45 = .ok (.bipush (-3), 2) := by decide +kernel
theorem dX11_insertLine_47 : decode cX11_insertLine 47 = .ok (.ireturn, 1) := by decide +kernel
theorem dX11_insertLine_48 : decode cX11_insertLine 48 = .ok (.aload_n 0, 1) := by decide +kernel
theorem dX11_insertLine_49 : decode cX11_insertLine 49 = .ok (.invokevirtual 107, 3) := by decide +kernel
theorem dX11_insertLine_52 : decode cX11_insertLine 52 = .ok (.aload_n 0, 1) := by decide +kernel
theorem dX11_insertLine_53 : decode cX11_insertLine 53 = .ok (.getfield 12, 3) := by decide +kernel
theorem dX11_insertLine_56 : decode cX11_insertLine 56 = .ok (.getfield 96, 3) := by decide +kernel
theorem dX11_insertLine_59 : decode cX11_insertLine 59 = .ok (.iload_n 1, 1) := by decide +kernel
theorem dX11_insertLine_60 : decode cX11_insertLine 60 = .ok (.invokevirtual 110, 3) := by decide +kernel
theorem dX11_insertLine_63 : decode cX11_insertLine 63 = .ok (.aload_n 0, 1) := by decide +kernel
theorem dX11_insertLine_64 : decode cX11_insertLine 64 = .ok (.getfield 19, 3) := by decide +kernel
theorem dX11_insertLine_67 : decode cX11_insertLine 67 = .ok (.aload_n 0, 1) := by decide +kernel
theorem dX11_insertLine_68 : decode cX11_insertLine 68 = .ok (.getfield 12, 3) := by decide +kernel
theorem dX11_insertLine_71 : decode cX11_insertLine 71 = .ok (.getfield 96, 3) := by decide +kernel
theorem dX11_insertLine_74 : decode cX11_insertLine 74 = .ok (.iload_n 1, 1) := by decide +kernel
theorem dX11_insertLine_75 : decode cX11_insertLine 75 = .ok (.invokevirtual 113, 3) := by decide +kernel
theorem dX11_insertLine_78 : decode cX11_insertLine 78 = .ok (.aload_n 0, 1) := by decide +kernel
theorem dX11_insertLine_79 : decode cX11_insertLine 79 = .ok (.getfield 12, 3) := by decide +kernel
theorem dX11_insertLine_82 : decode cX11_insertLine 82 = .ok (.getfield 96, 3) := by decide +kernel
theorem dX11_insertLine_85 : decode cX11_insertLine 85 = .ok (.getfield 100, 3) := by decide +kernel
theorem dX11_insertLine_88 : decode cX11_insertLine 88 = .ok (.ireturn, 1) := by decide +kernel
theorem dX11_replaceLine_0 : decode cX11_replaceLine 0 = .ok (.aload_n 0, 1) := by decide +kernel
theorem dX11_replaceLine_1 : decode cX11_replaceLine 1 = .ok (.getfield 12, 3) := by decide +kernel
theorem dX11_replaceLine_4 : decode cX11_replaceLine 4 = .ok (.getfield 96, 3) := by decide +kernel
theorem dX11_replaceLine_7 : decode cX11_replaceLine 7 = .ok (.iload_n 1, 1) := by decide +kernel
theorem dX11_replaceLine_8 : decode cX11_replaceLine 8 = .ok (.invokevirtual 117, 3) := by decide +kernel
theorem dX11_replaceLine_11 : decode cX11_replaceLine 11 = .ok (.ifCond .ne 5, 3) := by decide +kernel
theorem dX11_replaceLine_14 : decode cX11_replaceLine 14 = .ok (.iconst (-1), 1) := by decide +kernel
theorem dX11_replaceLine_15 : decode cX11_replaceLine 15 = .ok (.ireturn, 1) := by decide +kernel
theorem dX11_replaceLine_16 : decode cX11_replaceLine 16 = .ok (.aload_n 0, 1) := by decide +kernel
theorem dX11_replaceLine_17 : decode cX11_replaceLine 17 = .ok (.getfield 19, 3) := by decide +kernel
theorem dX11_replaceLine_20 : decode cX11_replaceLine 20 = .ok (.invokevirtual 103, 3) := by decide +kernel
theorem dX11_replaceLine_23 : decode cX11_replaceLine 23 = .ok (.ifCond .ne 6, 3) := by decide +kernel
theorem dX11_replaceLine_26 : decode cX11_replaceLine 26 = .ok (.bipush (-3), 2) := by decide +kernel
theorem dX11_replaceLine_28 : decode cX11_replaceLine 28 = .ok (.ireturn, 1) := by decide +kernel
theorem dX11_replaceLine_29 : decode cX11_replaceLine 29 = .ok (.aload_n 0, 1) := by decide +kernel
theorem dX11_replaceLine_30 : decode cX11_replaceLine 30 = .ok (.getfield 12, 3) := by decide +kernel
theorem dX11_replaceLine_33 : decode cX11_replaceLine 33 = .ok (.getfield 96, 3) := by decide +kernel
theorem dX11_replaceLine_36 : decode cX11_replaceLine 36 = .ok (.getfield 121, 3) := by decide +kernel
theorem dX11_replaceLine_39 : decode cX11_replaceLine 39 = .ok (.iload_n 1, 1) := by decide +kernel
theorem dX11_replaceLine_40 : decode cX11_replaceLine 40 = .ok (.invokevirtual 124, 3) := by decide +kernel
theorem dX11_replaceLine_43 : decode cX11_replaceLine 43 = .ok (.istore_n 2, 1) := by decide +kernel
theorem dX11_replaceLine_44 : decode cX11_replaceLine 44 = .ok (.aload_n 0, 1) := by decide +kernel
theorem dX11_replaceLine_45 : decode cX11_replaceLine 45 = .ok (.invokevirtual 107, 3) := by decide +kernel
theorem dX11_replaceLine_48 : decode cX11_replaceLine 48 = .ok (.aload_n 0, 1) := by decide +kernel
theorem dX11_replaceLine_49 : decode cX11_replaceLine 49 = .ok (.getfield 19, 3) := by decide +kernel
theorem dX11_replaceLine_52 : decode cX11_replaceLine 52 = .ok (.aload_n 0, 1) := by decide +kernel
theorem dX11_replaceLine_53 : decode cX11_replaceLine 53 = .ok (.getfield 12, 3) := by decide +kernel
theorem dX11_replaceLine_56 : decode cX11_replaceLine 56 = .ok (.getfield 96, 3) := by decide +kernel
theorem dX11_replaceLine_59 : decode cX11_replaceLine 59 = .ok (.iload_n 1, 1) := by decide +kernel
theorem dX11_replaceLine_60 : decode cX11_replaceLine 60 = .ok (.invokevirtual 113, 3) := by decide +kernel
theorem dX11_replaceLine_63 : decode cX11_replaceLine 63 = .ok (.iload_n 2, 1) := by decide +kernel
theorem dX11_replaceLine_64 : decode cX11_replaceLine 64 = .ok (.ireturn, 1) := by decide +kernel
theorem dX11_removeLine_0 : decode cX11_removeLine 0 = .ok (.aload_n 0, 1) := by decide +kernel
theorem dX11_removeLine_1 : decode cX11_removeLine 1 = .ok (.getfield 12, 3) := by decide +kernel
theorem dX11_removeLine_4 : decode cX11_removeLine 4 = .ok (.getfield 96, 3) := by decide +kernel
theorem dX11_removeLine_7 : decode cX11_removeLine 7 = .ok (.iload_n 1, 1) := by decide +kernel
theorem dX11_removeLine_8 : decode cX11_removeLine 8 = .ok (.invokevirtual 117, 3) := by decide +kernel
theorem dX11_removeLine_11 : decode cX11_removeLine 11 = .ok (.ifCond .ne 5, 3) := by decide +kernel
theorem dX11_removeLine_14 : decode cX11_removeLine 14 = .ok (.iconst (-1), 1) := by decide +kernel
theorem dX11_removeLine_15 : decode cX11_removeLine 15 = .ok (.ireturn, 1) := by decide +kernel
theorem dX11_removeLine_16 : decode cX11_removeLine 16 = .ok (.aload_n 0, 1) := by decide +kernel
theorem dX11_removeLine_17 : decode cX11_removeLine 17 = .ok (.invokevirtual 107, 3) := by decide +kernel
theorem dX11_removeLine_20 : decode cX11_removeLine 20 = .ok (.aload_n 0, 1) := by decide +kernel
theorem dX11_removeLine_21 : decode cX11_removeLine 21 = .ok (.getfield 12, 3) := by decide +kernel
theorem dX11_removeLine_24 : decode cX11_removeLine 24 = .ok (.getfield 96, 3) := by decide +kernel
theorem dX11_removeLine_27 : decode cX11_removeLine 27 = .ok (.iload_n 1, 1) := by decide +kernel
theorem dX11_removeLine_28 : decode cX11_removeLine 28 = .ok (.invokevirtual 128, 3) := by decide +kernel
theorem dX11_removeLine_31 : decode cX11_removeLine 31 = .ok (.aload_n 0, 1) := by decide +kernel
theorem dX11_removeLine_32 : decode cX11_removeLine 32 = .ok (.getfield 12, 3) := by decide +kernel
theorem dX11_removeLine_35 : decode cX11_removeLine 35 = .ok (.getfield 96, 3) := by decide +kernel
theorem dX11_removeLine_38 : decode cX11_removeLine 38 = .ok (.getfield 100, 3) := by decide +kernel
theorem dX11_removeLine_41 : decode cX11_removeLine 41 = .ok (.ireturn, 1) := by decide +kernel
theorem dX11_splitLine_0 : decode cX11_splitLine 0 = .ok (.aload_n 0, 1) := by decide +kernel
theorem dX11_splitLine_1 : decode cX11_splitLine 1 = .ok (.getfield 12, 3) := by decide +kernel
theorem dX11_splitLine_4 : decode cX11_splitLine 4 = .ok (.getfield 96, 3) := by decide +kernel
theorem dX11_splitLine_7 : decode cX11_splitLine 7 = .ok (.iload_n 1, 1) := by decide +kernel
theorem dX11_splitLine_8 : decode cX11_splitLine 8 = .ok (.invokevirtual 117, 3) := by decide +kernel
theorem dX11_splitLine_11 : decode cX11_splitLine 11 = .ok (.ifCond .eq 27, 3) := by decide +kernel
theorem dX11_splitLine_14 : decode cX11_splitLine 14 = .ok (.iload_n 2, 1) := by decide +kernel
theorem dX11_splitLine_15 : decode cX11_splitLine 15 = .ok (.iconst 1, 1) := by decide +kernel
theorem dX11_splitLine_16 : decode cX11_splitLine 16 = .ok (.aload_n 0, 1) := by decide +kernel
theorem dX11_splitLine_17 : decode cX11_splitLine 17 = .ok (.getfield 12, 3) := by decide +kernel
theorem dX11_splitLine_20 : decode cX11_splitLine 20 = .ok (.getfield 96, 3) := by decide +kernel
theorem dX11_splitLine_23 : decode cX11_splitLine 23 = .ok (.getfield 131, 3) := by decide +kernel
theorem dX11_splitLine_26 : decode cX11_splitLine 26 = .ok (.iload_n 1, 1) := by decide +kernel
theorem dX11_splitLine_27 : decode cX11_splitLine 27 = .ok (.invokevirtual 124, 3) := by decide +kernel
theorem dX11_splitLine_30 : decode cX11_splitLine 30 = .ok (.iconst 1, 1) := by decide +kernel
theorem dX11_splitLine_31 : decode cX11_splitLine 31 = .ok (.isub, 1) := by decide +kernel
theorem dX11_splitLine_32 : decode cX11_splitLine 32 = .ok (.invokestatic 85, 3) := by decide +kernel
theorem dX11_splitLine_35 : decode cX11_splitLine 35 = .ok (.ifCond .ne 5, 3) := by decide +kernel
theorem dX11_splitLine_38 : decode cX11_splitLine 38 = .ok (.iconst (-1), 1) := by decide +kernel
theorem dX11_splitLine_39 : decode cX11_splitLine 39 = .ok (.ireturn, 1) := by decide +kernel
theorem dX11_splitLine_40 : decode cX11_splitLine 40 = .ok (.aload_n 0, 1) := by decide +kernel
theorem dX11_splitLine_41 : decode cX11_splitLine 41 = .ok (.getfield 12, 3) := by decide +kernel
theorem dX11_splitLine_44 : decode cX11_splitLine 44 = .ok (.getfield 96, 3) := by decide +kernel
theorem dX11_splitLine_47 : decode cX11_splitLine 47 = .ok (.getfield 100, 3) := by decide +kernel
theorem dX11_splitLine_50 : decode cX11_splitLine 50 = .ok (.bipush 20, 2) := by decide +kernel
theorem dX11_splitLine_52 : decode cX11_splitLine 52 = .ok (.if_icmp .lt 6, 3) := by decide +kernel
theorem dX11_splitLine_55 : decode cX11_splitLine 55 = .ok (.bipush (-3), 2) := by decide +kernel
theorem dX11_splitLine_57 : decode cX11_splitLine 57 = .ok (.ireturn, 1) := by decide +kernel
theorem dX11_splitLine_58 : decode cX11_splitLine 58 = .ok (.aload_n 0, 1) := by decide +kernel
theorem dX11_splitLine_59 : decode cX11_splitLine 59 = .ok (.invokevirtual 107, 3) := by decide +kernel
theorem dX11_splitLine_62 : decode cX11_splitLine 62 = .ok (.aload_n 0, 1) := by decide +kernel
theorem dX11_splitLine_63 : decode cX11_splitLine 63 = .ok (.getfield 12, 3) := by decide +kernel
theorem dX11_splitLine_66 : decode cX11_splitLine 66 = .ok (.getfield 96, 3) := by decide +kernel
theorem dX11_splitLine_69 : decode cX11_splitLine 69 = .ok (.iload_n 1, 1) := by decide +kernel
theorem dX11_splitLine_70 : decode cX11_splitLine 70 = .ok (.iload_n 2, 1) := by decide +kernel
theorem dX11_splitLine_71 : decode cX11_splitLine 71 = .ok (.invokevirtual 134, 3) := by decide +kernel
theorem dX11_splitLine_74 : decode cX11_splitLine 74 = .ok (.aload_n 0, 1) := by decide +kernel
theorem dX11_splitLine_75 : decode cX11_splitLine 75 = .ok (.invokevirtual 138, 3) := by decide +kernel
theorem dX11_splitLine_78 : decode cX11_splitLine 78 = .ok (.aload_n 0, 1) := by decide +kernel
theorem dX11_splitLine_79 : decode cX11_splitLine 79 = .ok (.getfield 67, 3) := by decide +kernel
theorem dX11_splitLine_82 : decode cX11_splitLine 82 = .ok (.iload_n 1, 1) := by decide +kernel
theorem dX11_splitLine_83 : decode cX11_splitLine 83 = .ok (.iconst 1, 1) := by decide +kernel
theorem dX11_splitLine_84 : decode cX11_splitLine 84 = .ok (.iadd, 1) := by decide +kernel
theorem dX11_splitLine_85 : decode cX11_splitLine 85 = .ok (.aload_n 0, 1) := by decide +kernel
theorem dX11_splitLine_86 : decode cX11_splitLine 86 = .ok (.getfield 12, 3) := by decide +kernel
theorem dX11_splitLine_89 : decode cX11_splitLine 89 = .ok (.getfield 96, 3) := by decide +kernel
theorem dX11_splitLine_92 : decode cX11_splitLine 92 = .ok (.getfield 121, 3) := by decide +kernel
theorem dX11_splitLine_95 : decode cX11_splitLine 95 = .ok (.aload_n 0, 1) := by decide +kernel
theorem dX11_splitLine_96 : decode cX11_splitLine 96 = .ok (.getfield 12, 3) := by decide +kernel
theorem dX11_splitLine_99 : decode cX11_splitLine 99 = .ok (.getfield 141, 3) := by decide +kernel
theorem dX11_splitLine_102 : decode cX11_splitLine 102 = .ok (.aload_n 0, 1) := by decide +kernel
theorem dX11_splitLine_103 : decode cX11_splitLine 103 = .ok (.getfield 12, 3) := by decide +kernel
theorem dX11_splitLine_106 : decode cX11_splitLine 106 = .ok (.getfield 144, 3) := by decide +kernel
theorem dX11_splitLine_109 : decode cX11_splitLine 109 = .ok (.invokevirtual 147, 3) := by decide +kernel
theorem dX11_splitLine_112 : decode cX11_splitLine 112 = .ok (.istore_n 3, 1) := by decide +kernel
theorem dX11_splitLine_113 : decode cX11_splitLine 113 = .ok (.aload_n 0, 1) := by decide +kernel
theorem dX11_splitLine_114 : decode cX11_splitLine 114 = .ok (.getfield 12, 3) := by decide +kernel
theorem dX11_splitLine_117 : decode cX11_splitLine 117 = .ok (.getfield 96, 3) := by decide +kernel
theorem dX11_splitLine_120 : decode cX11_splitLine 120 = .ok (.getfield 121, 3) := by decide +kernel
theorem dX11_splitLine_123 : decode cX11_splitLine 123 = .ok (.iload_n 1, 1) := by decide +kernel
theorem dX11_splitLine_124 : decode cX11_splitLine 124 = .ok (.iconst 1, 1) := by decide +kernel
theorem dX11_splitLine_125 : decode cX11_splitLine 125 = .ok (.iadd, 1) := by decide +kernel
theorem dX11_splitLine_126 : decode cX11_splitLine 126 = .ok (.iload_n 3, 1) := by decide +kernel
theorem dX11_splitLine_127 : decode cX11_splitLine 127 = .ok (.bipush (-9), 2) := by decide +kernel
theorem dX11_splitLine_129 : decode cX11_splitLine 129 = .ok (.if_icmp .ne 7, 3) := by decide +kernel
theorem dX11_splitLine_132 : decode cX11_splitLine 132 = .ok (.iconst 0, 1) := by decide +kernel
theorem dX11_splitLine_133 : decode cX11_splitLine 133 = .ok (.goto 4, 3) := by decide +kernel
theorem dX11_splitLine_136 : decode cX11_splitLine 136 = .ok (.iload_n 3, 1) := by decide +kernel
theorem dX11_splitLine_137 : decode cX11_splitLine 137 = .ok (.invokevirtual 151, 3) := by decide +kernel
theorem dX11_splitLine_140 : decode cX11_splitLine 140 = .ok (.aload_n 0, 1) := by decide +kernel
theorem dX11_splitLine_141 : decode cX11_splitLine 141 = .ok (.getfield 12, 3) := by decide +kernel
theorem dX11_splitLine_144 : decode cX11_splitLine 144 = .ok (.getfield 96, 3) := by decide +kernel
theorem dX11_splitLine_147 : decode cX11_splitLine 147 = .ok (.getfield 121, 3) := by decide +kernel
theorem dX11_splitLine_150 : decode cX11_splitLine 150 = .ok (.iload_n 1, 1) := by decide +kernel
theorem dX11_splitLine_151 : decode cX11_splitLine 151 = .ok (.iconst 1, 1) := by decide +kernel
theorem dX11_splitLine_152 : decode cX11_splitLine 152 = .ok (.iadd, 1) := by decide +kernel
theorem dX11_splitLine_153 : decode cX11_splitLine 153 = .ok (.invokevirtual 124, 3) := by decide +kernel
theorem dX11_splitLine_156 : decode cX11_splitLine 156 = .ok (.ireturn, 1) := by decide +kernel
theorem dX11_joinLines_0 : decode cX11_joinLines 0 = .ok (.aload_n 0, 1) := by decide +kernel
theorem dX11_joinLines_1 : decode cX11_joinLines 1 = .ok (.getfield 12, 3) := by decide +kernel
theorem dX11_joinLines_4 : decode cX11_joinLines 4 = .ok (.getfield 96, 3) := by decide +kernel
theorem dX11_joinLines_7 : decode cX11_joinLines 7 = .ok (.iload_n 1, 1) := by decide +kernel
theorem dX11_joinLines_8 : decode cX11_joinLines 8 = .ok (.invokevirtual 117, 3) := by decide +kernel
theorem dX11_joinLines_11 : decode cX11_joinLines 11 = .ok (.ifCond .eq 19, 3) := by decide +kernel
theorem dX11_joinLines_14 : decode cX11_joinLines 14 = .ok (.aload_n 0, 1) := by decide +kernel
theorem dX11_joinLines_15 : decode cX11_joinLines 15 = .ok (.getfield 12, 3) := by decide +kernel
theorem dX11_joinLines_18 : decode cX11_joinLines 18 = .ok (.getfield 96, 3) := by decide +kernel
theorem dX11_joinLines_21 : decode cX11_joinLines 21 = .ok (.iload_n 1, 1) := by decide +kernel
theorem dX11_joinLines_22 : decode cX11_joinLines 22 = .ok (.iconst 1, 1) := by decide +kernel
theorem dX11_joinLines_23 : decode cX11_joinLines 23 = .ok (.iadd, 1) := by decide +kernel
theorem dX11_joinLines_24 : decode cX11_joinLines 24 = .ok (.invokevirtual 117, 3) := by decide +kernel
theorem dX11_joinLines_27 : decode cX11_joinLines 27 = .ok (.ifCond .ne 5, 3) := by decide +kernel
theorem dX11_joinLines_30 : decode cX11_joinLines 30 = .ok (.iconst (-1), 1) := by decide +kernel
theorem dX11_joinLines_31 : decode cX11_joinLines 31 = .ok (.ireturn, 1) := by decide +kernel
theorem dX11_joinLines_32 : decode cX11_joinLines 32 = .ok (.aload_n 0, 1) := by decide +kernel
theorem dX11_joinLines_33 : decode cX11_joinLines 33 = .ok (.getfield 12, 3) := by decide +kernel
theorem dX11_joinLines_36 : decode cX11_joinLines 36 = .ok (.getfield 96, 3) := by decide +kernel
theorem dX11_joinLines_39 : decode cX11_joinLines 39 = .ok (.iload_n 1, 1) := by decide +kernel
theorem dX11_joinLines_40 : decode cX11_joinLines 40 = .ok (.invokevirtual 154, 3) := by decide +kernel
theorem dX11_joinLines_43 : decode cX11_joinLines 43 = .ok (.bipush 32, 2) := by decide +kernel
theorem dX11_joinLines_45 : decode cX11_joinLines 45 = .ok (.if_icmp .le 6, 3) := by decide +kernel
theorem dX11_joinLines_48 : decode cX11_joinLines 48 = .ok (.bipush (-3), 2) := by decide +kernel
theorem dX11_joinLines_50 : decode cX11_joinLines 50 = .ok (.ireturn, 1) := by decide +kernel
theorem dX11_joinLines_51 : decode cX11_joinLines 51 = .ok (.aload_n 0, 1) := by decide +kernel
theorem dX11_joinLines_52 : decode cX11_joinLines 52 = .ok (.invokevirtual 107, 3) := by decide +kernel
theorem dX11_joinLines_55 : decode cX11_joinLines 55 = .ok (.aload_n 0, 1) := by decide +kernel
theorem dX11_joinLines_56 : decode cX11_joinLines 56 = .ok (.getfield 12, 3) := by decide +kernel
theorem dX11_joinLines_59 : decode cX11_joinLines 59 = .ok (.getfield 96, 3) := by decide +kernel
theorem dX11_joinLines_62 : decode cX11_joinLines 62 = .ok (.iload_n 1, 1) := by decide +kernel
theorem dX11_joinLines_63 : decode cX11_joinLines 63 = .ok (.invokevirtual 157, 3) := by decide +kernel
theorem dX11_joinLines_66 : decode cX11_joinLines 66 = .ok (.aload_n 0, 1) := by decide +kernel
theorem dX11_joinLines_67 : decode cX11_joinLines 67 = .ok (.getfield 12, 3) := by decide +kernel
theorem dX11_joinLines_70 : decode cX11_joinLines 70 = .ok (.getfield 96, 3) := by decide +kernel
theorem dX11_joinLines_73 : decode cX11_joinLines 73 = .ok (.getfield 131, 3) := by decide +kernel
theorem dX11_joinLines_76 : decode cX11_joinLines 76 = .ok (.iload_n 1, 1) := by decide +kernel
theorem dX11_joinLines_77 : decode cX11_joinLines 77 = .ok (.invokevirtual 124, 3) := by decide +kernel
theorem dX11_joinLines_80 : decode cX11_joinLines 80 = .ok (.ireturn, 1) := by decide +kernel
theorem dX11_shift_0 : decode cX11_shift 0 = .ok (.aload_n 0, 1) := by decide +kernel
theorem dX11_shift_1 : decode cX11_shift 1 = .ok (.getfield 12, 3) := by decide +kernel
theorem dX11_shift_4 : decode cX11_shift 4 = .ok (.getfield 96, 3) := by decide +kernel
theorem dX11_shift_7 : decode cX11_shift 7 = .ok (.iload_n 1, 1) := by decide +kernel
theorem dX11_shift_8 : decode cX11_shift 8 = .ok (.iload_n 2, 1) := by decide +kernel
theorem dX11_shift_9 : decode cX11_shift 9 = .ok (.invokevirtual 160, 3) := by decide +kernel
theorem dX11_shift_12 : decode cX11_shift 12 = .ok (.ifCond .eq 14, 3) := by decide +kernel
theorem dX11_shift_15 : decode cX11_shift 15 = .ok (.iload_n 3, 1) := by decide +kernel
theorem dX11_shift_16 : decode cX11_shift 16 = .ok (.bipush (-40), 2) := by decide +kernel
theorem dX11_shift_18 : decode cX11_shift 18 = .ok (.bipush 40, 2) := by decide +kernel
theorem dX11_shift_20 : decode cX11_shift 20 = .ok (.invokestatic 85, 3) := by decide +kernel
theorem dX11_shift_23 : decode cX11_shift 23 = .ok (.ifCond .ne 5, 3) := by decide +kernel
theorem dX11_shift_26 : decode cX11_shift 26 = .ok (.iconst (-1), 1) := by decide +kernel
theorem dX11_shift_27 : decode cX11_shift 27 = .ok (.ireturn, 1) := by decide +kernel
theorem dX11_shift_28 : decode cX11_shift 28 = .ok (.aload_n 0, 1) := by decide +kernel
theorem dX11_shift_29 : decode cX11_shift 29 = .ok (.getfield 12, 3) := by decide +kernel
theorem dX11_shift_32 : decode cX11_shift 32 = .ok (.getfield 96, 3) := by decide +kernel
theorem dX11_shift_35 : decode cX11_shift 35 = .ok (.iload_n 1, 1) := by decide +kernel
theorem dX11_shift_36 : decode cX11_shift 36 = .ok (.iload_n 2, 1) := by decide +kernel
theorem dX11_shift_37 : decode cX11_shift 37 = .ok (.iload_n 3, 1) := by decide +kernel
theorem dX11_shift_38 : decode cX11_shift 38 = .ok (.invokevirtual 164, 3) := by decide +kernel
theorem dX11_shift_41 : decode cX11_shift 41 = .ok (.ifCond .ne 6, 3) := by decide +kernel
theorem dX11_shift_44 : decode cX11_shift 44 = .ok (.bipush (-2), 2) := by decide +kernel
theorem dX11_shift_46 : decode cX11_shift 46 = .ok (.ireturn, 1) := by decide +kernel
theorem dX11_shift_47 : decode cX11_shift 47 = .ok (.aload_n 0, 1) := by decide +kernel
theorem dX11_shift_48 : decode cX11_shift 48 = .ok (.invokevirtual 107, 3) := by decide +kernel
theorem dX11_shift_51 : decode cX11_shift 51 = .ok (.aload_n 0, 1) := by decide +kernel
theorem dX11_shift_52 : decode cX11_shift 52 = .ok (.getfield 12, 3) := by decide +kernel
theorem dX11_shift_55 : decode cX11_shift 55 = .ok (.getfield 96, 3) := by decide +kernel
theorem dX11_shift_58 : decode cX11_shift 58 = .ok (.iload_n 1, 1) := by decide +kernel
theorem dX11_shift_59 : decode cX11_shift 59 = .ok (.iload_n 2, 1) := by decide +kernel
theorem dX11_shift_60 : decode cX11_shift 60 = .ok (.iload_n 3, 1) := by decide +kernel
theorem dX11_shift_61 : decode cX11_shift 61 = .ok (.invokevirtual 167, 3) := by decide +kernel
theorem dX11_shift_64 : decode cX11_shift 64 = .ok (.ireturn, 1) := by decide +kernel
theorem dX11_pin_0 : decode cX11_pin 0 = .ok (.aload_n 0, 1) := by decide +kernel
theorem dX11_pin_1 : decode cX11_pin 1 = .ok (.getfield 12, 3) := by decide +kernel
theorem dX11_pin_4 : decode cX11_pin 4 = .ok (.getfield 96, 3) := by decide +kernel
theorem dX11_pin_7 : decode cX11_pin 7 = .ok (.iload_n 1, 1) := by decide +kernel
theorem dX11_pin_8 : decode cX11_pin 8 = .ok (.invokevirtual 117, 3) := by decide +kernel
theorem dX11_pin_11 : decode cX11_pin 11 = .ok (.ifCond .ne 5, 3) := by decide +kernel
theorem dX11_pin_14 : decode cX11_pin 14 = .ok (.iconst (-1), 1) := by decide +kernel
theorem dX11_pin_15 : decode cX11_pin 15 = .ok (.ireturn, 1) := by decide +kernel
theorem dX11_pin_16 : decode cX11_pin 16 = .ok (.aload_n 0, 1) := by decide +kernel
theorem dX11_pin_17 : decode cX11_pin 17 = .ok (.invokevirtual 107, 3) := by decide +kernel
theorem dX11_pin_20 : decode cX11_pin 20 = .ok (.aload_n 0, 1) := by decide +kernel
theorem dX11_pin_21 : decode cX11_pin 21 = .ok (.getfield 12, 3) := by decide +kernel
theorem dX11_pin_24 : decode cX11_pin 24 = .ok (.getfield 96, 3) := by decide +kernel
theorem dX11_pin_27 : decode cX11_pin 27 = .ok (.getfield 171, 3) := by decide +kernel
theorem dX11_pin_30 : decode cX11_pin 30 = .ok (.iload_n 1, 1) := by decide +kernel
theorem dX11_pin_31 : decode cX11_pin 31 = .ok (.iconst 1, 1) := by decide +kernel
theorem dX11_pin_32 : decode cX11_pin 32 = .ok (.aload_n 0, 1) := by decide +kernel
theorem dX11_pin_33 : decode cX11_pin 33 = .ok (.getfield 12, 3) := by decide +kernel
theorem dX11_pin_36 : decode cX11_pin 36 = .ok (.getfield 96, 3) := by decide +kernel
theorem dX11_pin_39 : decode cX11_pin 39 = .ok (.getfield 171, 3) := by decide +kernel
theorem dX11_pin_42 : decode cX11_pin 42 = .ok (.iload_n 1, 1) := by decide +kernel
theorem dX11_pin_43 : decode cX11_pin 43 = .ok (.invokevirtual 124, 3) := by decide +kernel
theorem dX11_pin_46 : decode cX11_pin 46 = .ok (.isub, 1) := by decide +kernel
theorem dX11_pin_47 : decode cX11_pin 47 = .ok (.invokevirtual 151, 3) := by decide +kernel
theorem dX11_pin_50 : decode cX11_pin 50 = .ok (.aload_n 0, 1) := by decide +kernel
theorem dX11_pin_51 : decode cX11_pin 51 = .ok (.getfield 12, 3) := by decide +kernel
theorem dX11_pin_54 : decode cX11_pin 54 = .ok (.getfield 96, 3) := by decide +kernel
theorem dX11_pin_57 : decode cX11_pin 57 = .ok (.getfield 171, 3) := by decide +kernel
theorem dX11_pin_60 : decode cX11_pin 60 = .ok (.iload_n 1, 1) := by decide +kernel
theorem dX11_pin_61 : decode cX11_pin 61 = .ok (.invokevirtual 124, 3) := by decide +kernel
theorem dX11_pin_64 : decode cX11_pin 64 = .ok (.ireturn, 1) := by decide +kernel
theorem dX11_reindent_0 : decode cX11_reindent 0 = .ok (.aload_n 0, 1) := by decide +kernel
theorem dX11_reindent_1 : decode cX11_reindent 1 = .ok (.getfield 12, 3) := by decide +kernel
theorem dX11_reindent_4 : decode cX11_reindent 4 = .ok (.getfield 96, 3) := by decide +kernel
theorem dX11_reindent_7 : decode cX11_reindent 7 = .ok (.iload_n 1, 1) := by decide +kernel
theorem dX11_reindent_8 : decode cX11_reindent 8 = .ok (.iload_n 2, 1) := by decide +kernel
theorem dX11_reindent_9 : decode cX11_reindent 9 = .ok (.invokevirtual 160, 3) := by decide +kernel
theorem dX11_reindent_12 : decode cX11_reindent 12 = .ok (.ifCond .ne 5, 3) := by decide +kernel
theorem dX11_reindent_15 : decode cX11_reindent 15 = .ok (.iconst (-1), 1) := by decide +kernel
theorem dX11_reindent_16 : decode cX11_reindent 16 = .ok (.ireturn, 1) := by decide +kernel
theorem dX11_reindent_17 : decode cX11_reindent 17 = .ok (.aload_n 0, 1) := by decide +kernel
theorem dX11_reindent_18 : decode cX11_reindent 18 = .ok (.invokevirtual 107, 3) := by decide +kernel
theorem dX11_reindent_21 : decode cX11_reindent 21 = .ok (.aload_n 0, 1) := by decide +kernel
theorem dX11_reindent_22 : decode cX11_reindent 22 = .ok (.invokevirtual 138, 3) := by decide +kernel
theorem dX11_reindent_25 : decode cX11_reindent 25 = .ok (.iconst 0, 1) := by decide +kernel
theorem dX11_reindent_26 : decode cX11_reindent 26 = .ok (.istore_n 3, 1) := by decide +kernel
theorem dX11_reindent_27 : decode cX11_reindent 27 = .ok (.iload_n 1, 1) := by decide +kernel
theorem dX11_reindent_28 : decode cX11_reindent 28 = .ok (.istore 4, 2) := by decide +kernel
theorem dX11_reindent_30 : decode cX11_reindent 30 = .ok (.iload 4, 2) := by decide +kernel
theorem dX11_reindent_32 : decode cX11_reindent 32 = .ok (.iload_n 2, 1) := by decide +kernel
theorem dX11_reindent_33 : decode cX11_reindent 33 = .ok (.if_icmp .ge 45, 3) := by decide +kernel
theorem dX11_reindent_36 : decode cX11_reindent 36 = .ok (.aload_n 0, 1) := by decide +kernel
theorem dX11_reindent_37 : decode cX11_reindent 37 = .ok (.iload 4, 2) := by decide +kernel
theorem dX11_reindent_39 : decode cX11_reindent 39 = .ok (.aload_n 0, 1) := by decide +kernel
theorem dX11_reindent_40 : decode cX11_reindent 40 = .ok (.getfield 12, 3) := by decide +kernel
theorem dX11_reindent_43 : decode cX11_reindent 43 = .ok (.getfield 96, 3) := by decide +kernel
theorem dX11_reindent_46 : decode cX11_reindent 46 = .ok (.getfield 121, 3) := by decide +kernel
theorem dX11_reindent_49 : decode cX11_reindent 49 = .ok (.aload_n 0, 1) := by decide +kernel
theorem dX11_reindent_50 : decode cX11_reindent 50 = .ok (.getfield 12, 3) := by decide +kernel
theorem dX11_reindent_53 : decode cX11_reindent 53 = .ok (.getfield 141, 3) := by decide +kernel
theorem dX11_reindent_56 : decode cX11_reindent 56 = .ok (.aload_n 0, 1) := by decide +kernel
theorem dX11_reindent_57 : decode cX11_reindent 57 = .ok (.getfield 12, 3) := by decide +kernel
theorem dX11_reindent_60 : decode cX11_reindent 60 = .ok (.getfield 144, 3) := by decide +kernel
theorem dX11_reindent_63 : decode cX11_reindent 63 = .ok (.invokevirtual 174, 3) := by decide +kernel
theorem dX11_reindent_66 : decode cX11_reindent 66 = .ok (.ifCond .eq 6, 3) := by decide +kernel
theorem dX11_reindent_69 : decode cX11_reindent 69 = .ok (.iinc 3 1, 3) := by decide +kernel
theorem dX11_reindent_72 : decode cX11_reindent 72 = .ok (.iinc 4 1, 3) := by decide +kernel
theorem dX11_reindent_75 : decode cX11_reindent 75 = .ok (.goto (-45), 3) := by decide +kernel
theorem dX11_reindent_78 : decode cX11_reindent 78 = .ok (.iload_n 3, 1) := by decide +kernel
theorem dX11_reindent_79 : decode cX11_reindent 79 = .ok (.ireturn, 1) := by decide +kernel
theorem dX11_lines_0 : decode cX11_lines 0 = .ok (.aload_n 0, 1) := by decide +kernel
theorem dX11_lines_1 : decode cX11_lines 1 = .ok (.getfield 12, 3) := by decide +kernel
theorem dX11_lines_4 : decode cX11_lines 4 = .ok (.getfield 96, 3) := by decide +kernel
theorem dX11_lines_7 : decode cX11_lines 7 = .ok (.getfield 100, 3) := by decide +kernel
theorem dX11_lines_10 : decode cX11_lines 10 = .ok (.ireturn, 1) := by decide +kernel
theorem dX11_indentation_0 : decode cX11_indentation 0 = .ok (.aload_n 0, 1) := by decide +kernel
theorem dX11_indentation_1 : decode cX11_indentation 1 = .ok (.getfield 12, 3) := by decide +kernel
theorem dX11_indentation_4 : decode cX11_indentation 4 = .ok (.getfield 96, 3) := by decide +kernel
theorem dX11_indentation_7 : decode cX11_indentation 7 = .ok (.iload_n 1, 1) := by decide +kernel
theorem dX11_indentation_8 : decode cX11_indentation 8 = .ok (.invokevirtual 117, 3) := by decide +kernel
theorem dX11_indentation_11 : decode cX11_indentation 11 = .ok (.ifCond .eq 20, 3) := by decide +kernel
theorem dX11_indentation_14 : decode cX11_indentation 14 = .ok (.aload_n 0, 1) := by decide +kernel
theorem dX11_indentation_15 : decode cX11_indentation 15 = .ok (.getfield 12, 3) := by decide +kernel
theorem dX11_indentation_18 : decode cX11_indentation 18 = .ok (.getfield 96, 3) := by decide +kernel
theorem dX11_indentation_21 : decode cX11_indentation 21 = .ok (.getfield 121, 3) := by decide +kernel
theorem dX11_indentation_24 : decode cX11_indentation 24 = .ok (.iload_n 1, 1) := by decide +kernel
theorem dX11_indentation_25 : decode cX11_indentation 25 = .ok (.invokevirtual 124, 3) := by decide +kernel
theorem dX11_indentation_28 : decode cX11_indentation 28 = .ok (.goto 4, 3) := by decide +kernel
theorem dX11_indentation_31 : decode cX11_indentation 31 = .ok (.iconst (-1), 1) := by decide +kernel
theorem dX11_indentation_32 : decode cX11_indentation 32 = .ok (.ireturn, 1) := by decide +kernel
theorem dX11_length_0 : decode cX11_length 0 = .ok (.aload_n 0, 1) := by decide +kernel
theorem dX11_length_1 : decode cX11_length 1 = .ok (.getfield 12, 3) := by decide +kernel
theorem dX11_length_4 : decode cX11_length 4 = .ok (.getfield 96, 3) := by decide +kernel
theorem dX11_length_7 : decode cX11_length 7 = .ok (.iload_n 1, 1) := by decide +kernel
theorem dX11_length_8 : decode cX11_length 8 = .ok (.invokevirtual 117, 3) := by decide +kernel
theorem dX11_length_11 : decode cX11_length 11 = .ok (.ifCond .eq 20, 3) := by decide +kernel
theorem dX11_length_14 : decode cX11_length 14 = .ok (.aload_n 0, 1) := by decide +kernel
theorem dX11_length_15 : decode cX11_length 15 = .ok (.getfield 12, 3) := by decide +kernel
theorem dX11_length_18 : decode cX11_length 18 = .ok (.getfield 96, 3) := by decide +kernel
theorem dX11_length_21 : decode cX11_length 21 = .ok (.getfield 131, 3) := by decide +kernel
theorem dX11_length_24 : decode cX11_length 24 = .ok (.iload_n 1, 1) := by decide +kernel
theorem dX11_length_25 : decode cX11_length 25 = .ok (.invokevirtual 124, 3) := by decide +kernel
theorem dX11_length_28 : decode cX11_length 28 = .ok (.goto 4, 3) := by decide +kernel
theorem dX11_length_31 : decode cX11_length 31 = .ok (.iconst (-1), 1) := by decide +kernel
theorem dX11_length_32 : decode cX11_length 32 = .ok (.ireturn, 1) := by decide +kernel
theorem dX11_byteAt_0 : decode cX11_byteAt 0 = .ok (.aload_n 0, 1) := by decide +kernel
theorem dX11_byteAt_1 : decode cX11_byteAt 1 = .ok (.getfield 12, 3) := by decide +kernel
theorem dX11_byteAt_4 : decode cX11_byteAt 4 = .ok (.getfield 96, 3) := by decide +kernel
theorem dX11_byteAt_7 : decode cX11_byteAt 7 = .ok (.iload_n 1, 1) := by decide +kernel
theorem dX11_byteAt_8 : decode cX11_byteAt 8 = .ok (.invokevirtual 117, 3) := by decide +kernel
theorem dX11_byteAt_11 : decode cX11_byteAt 11 = .ok (.ifCond .eq 7, 3) := by decide +kernel
theorem dX11_byteAt_14 : decode cX11_byteAt 14 = .ok (.iload_n 2, 1) := by decide +kernel
theorem dX11_byteAt_15 : decode cX11_byteAt 15 = .ok (.ifCond .ge 5, 3) := by decide +kernel
theorem dX11_byteAt_18 : decode cX11_byteAt 18 = .ok (.iconst (-1), 1) := by decide +kernel
theorem dX11_byteAt_19 : decode cX11_byteAt 19 = .ok (.ireturn, 1) := by decide +kernel
theorem dX11_byteAt_20 : decode cX11_byteAt 20 = .ok (.iload_n 2, 1) := by decide +kernel
theorem dX11_byteAt_21 : decode cX11_byteAt 21 = .ok (.aload_n 0, 1) := by decide +kernel
theorem dX11_byteAt_22 : decode cX11_byteAt 22 = .ok (.getfield 12, 3) := by decide +kernel
theorem dX11_byteAt_25 : decode cX11_byteAt 25 = .ok (.getfield 96, 3) := by decide +kernel
theorem dX11_byteAt_28 : decode cX11_byteAt 28 = .ok (.getfield 131, 3) := by decide +kernel
theorem dX11_byteAt_31 : decode cX11_byteAt 31 = .ok (.iload_n 1, 1) := by decide +kernel
theorem dX11_byteAt_32 : decode cX11_byteAt 32 = .ok (.invokevirtual 124, 3) := by decide +kernel
theorem dX11_byteAt_35 : decode cX11_byteAt 35 = .ok (.if_icmp .ge 18, 3) := by decide +kernel
theorem dX11_byteAt_38 : decode cX11_byteAt 38 = .ok (.aload_n 0, 1) := by decide +kernel
theorem dX11_byteAt_39 : decode cX11_byteAt 39 = .ok (.getfield 12, 3) := by decide +kernel
theorem dX11_byteAt_42 : decode cX11_byteAt 42 = .ok (.getfield 96, 3) := by decide +kernel
theorem dX11_byteAt_45 : decode cX11_byteAt 45 = .ok (.iload_n 1, 1) := by decide +kernel
theorem dX11_byteAt_46 : decode cX11_byteAt 46 = .ok (.iload_n 2, 1) := by decide +kernel
theorem dX11_byteAt_47 : decode cX11_byteAt 47 = .ok (.invokevirtual 178, 3) := by decide +kernel
theorem dX11_byteAt_50 : decode cX11_byteAt 50 = .ok (.goto 5, 3) := by decide +kernel
theorem dX11_byteAt_53 : decode cX11_byteAt 53 = .ok (.bipush (-9), 2) := by decide +kernel
theorem dX11_byteAt_55 : decode cX11_byteAt 55 = .ok (.ireturn, 1) := by decide +kernel
theorem dX11_isProtected_0 : decode cX11_isProtected 0 = .ok (.aload_n 0, 1) := by decide +kernel
theorem dX11_isProtected_1 : decode cX11_isProtected 1 = .ok (.getfield 12, 3) := by decide +kernel
theorem dX11_isProtected_4 : decode cX11_isProtected 4 = .ok (.getfield 96, 3) := by decide +kernel
theorem dX11_isProtected_7 : decode cX11_isProtected 7 = .ok (.iload_n 1, 1) := by decide +kernel
theorem dX11_isProtected_8 : decode cX11_isProtected 8 = .ok (.invokevirtual 117, 3) := by decide +kernel
theorem dX11_isProtected_11 : decode cX11_isProtected 11 = .ok (.ifCond .ne 5, 3) := by decide +kernel
theorem dX11_isProtected_14 : decode cX11_isProtected 14 = .ok (.iconst (-1), 1) := by decide +kernel
theorem dX11_isProtected_15 : decode cX11_isProtected 15 = .ok (.ireturn, 1) := by decide +kernel
theorem dX11_isProtected_16 : decode cX11_isProtected 16 = .ok (.aload_n 0, 1) := by decide +kernel
theorem dX11_isProtected_17 : decode cX11_isProtected 17 = .ok (.invokevirtual 138, 3) := by decide +kernel
theorem dX11_isProtected_20 : decode cX11_isProtected 20 = .ok (.aload_n 0, 1) := by decide +kernel
theorem dX11_isProtected_21 : decode cX11_isProtected 21 = .ok (.getfield 53, 3) := by decide +kernel
theorem dX11_isProtected_24 : decode cX11_isProtected 24 = .ok (.getfield 182, 3) := by decide +kernel
theorem dX11_isProtected_27 : decode cX11_isProtected 27 = .ok (.iload_n 1, 1) := by decide +kernel
theorem dX11_isProtected_28 : decode cX11_isProtected 28 = .ok (.invokevirtual 124, 3) := by decide +kernel
theorem dX11_isProtected_31 : decode cX11_isProtected 31 = .ok (.ireturn, 1) := by decide +kernel
theorem dX11_isPinned_0 : decode cX11_isPinned 0 = .ok (.aload_n 0, 1) := by decide +kernel
theorem dX11_isPinned_1 : decode cX11_isPinned 1 = .ok (.getfield 12, 3) := by decide +kernel
theorem dX11_isPinned_4 : decode cX11_isPinned 4 = .ok (.getfield 96, 3) := by decide +kernel
theorem dX11_isPinned_7 : decode cX11_isPinned 7 = .ok (.iload_n 1, 1) := by decide +kernel
theorem dX11_isPinned_8 : decode cX11_isPinned 8 = .ok (.invokevirtual 117, 3) := by decide +kernel
theorem dX11_isPinned_11 : decode cX11_isPinned 11 = .ok (.ifCond .eq 20, 3) := by decide +kernel
theorem dX11_isPinned_14 : decode cX11_isPinned 14 = .ok (.aload_n 0, 1) := by decide +kernel
theorem dX11_isPinned_15 : decode cX11_isPinned 15 = .ok (.getfield 12, 3) := by decide +kernel
theorem dX11_isPinned_18 : decode cX11_isPinned 18 = .ok (.getfield 96, 3) := by decide +kernel
theorem dX11_isPinned_21 : decode cX11_isPinned 21 = .ok (.getfield 171, 3) := by decide +kernel
theorem dX11_isPinned_24 : decode cX11_isPinned 24 = .ok (.iload_n 1, 1) := by decide +kernel
theorem dX11_isPinned_25 : decode cX11_isPinned 25 = .ok (.invokevirtual 124, 3) := by decide +kernel
theorem dX11_isPinned_28 : decode cX11_isPinned 28 = .ok (.goto 4, 3) := by decide +kernel
theorem dX11_isPinned_31 : decode cX11_isPinned 31 = .ok (.iconst (-1), 1) := by decide +kernel
theorem dX11_isPinned_32 : decode cX11_isPinned 32 = .ok (.ireturn, 1) := by decide +kernel
theorem dX11_setStep_0 : decode cX11_setStep 0 = .ok (.iload_n 1, 1) := by decide +kernel
theorem dX11_setStep_1 : decode cX11_setStep 1 = .ok (.iconst 1, 1) := by decide +kernel
theorem dX11_setStep_2 : decode cX11_setStep 2 = .ok (.bipush 8, 2) := by decide +kernel
theorem dX11_setStep_4 : decode cX11_setStep 4 = .ok (.invokestatic 85, 3) := by decide +kernel
theorem dX11_setStep_7 : decode cX11_setStep 7 = .ok (.ifCond .ne 5, 3) := by decide +kernel
theorem dX11_setStep_10 : decode cX11_setStep 10 = .ok (.iconst (-1), 1) := by decide +kernel
theorem dX11_setStep_11 : decode cX11_setStep 11 = .ok (.ireturn, 1) := by decide +kernel
theorem dX11_setStep_12 : decode cX11_setStep 12 = .ok (.aload_n 0, 1) := by decide +kernel
theorem dX11_setStep_13 : decode cX11_setStep 13 = .ok (.getfield 12, 3) := by decide +kernel
theorem dX11_setStep_16 : decode cX11_setStep 16 = .ok (.getfield 141, 3) := by decide +kernel
theorem dX11_setStep_19 : decode cX11_setStep 19 = .ok (.istore_n 2, 1) := by decide +kernel
theorem dX11_setStep_20 : decode cX11_setStep 20 = .ok (.aload_n 0, 1) := by decide +kernel
theorem dX11_setStep_21 : decode cX11_setStep 21 = .ok (.invokevirtual 107, 3) := by decide +kernel
theorem dX11_setStep_24 : decode cX11_setStep 24 = .ok (.aload_n 0, 1) := by decide +kernel
theorem dX11_setStep_25 : decode cX11_setStep 25 = .ok (.getfield 12, 3) := by decide +kernel
theorem dX11_setStep_28 : decode cX11_setStep 28 = .ok (.iload_n 1, 1) := by decide +kernel
theorem dX11_setStep_29 : decode cX11_setStep 29 = .ok (.putfield 141, 3) := by decide +kernel
theorem dX11_setStep_32 : decode cX11_setStep 32 = .ok (.iload_n 2, 1) := by decide +kernel
theorem dX11_setStep_33 : decode cX11_setStep 33 = .ok (.ireturn, 1) := by decide +kernel
theorem dX11_setBase_0 : decode cX11_setBase 0 = .ok (.iload_n 1, 1) := by decide +kernel
theorem dX11_setBase_1 : decode cX11_setBase 1 = .ok (.iconst 0, 1) := by decide +kernel
theorem dX11_setBase_2 : decode cX11_setBase 2 = .ok (.bipush 20, 2) := by decide +kernel
theorem dX11_setBase_4 : decode cX11_setBase 4 = .ok (.invokestatic 85, 3) := by decide +kernel
theorem dX11_setBase_7 : decode cX11_setBase 7 = .ok (.ifCond .ne 5, 3) := by decide +kernel
theorem dX11_setBase_10 : decode cX11_setBase 10 = .ok (.iconst (-1), 1) := by decide +kernel
theorem dX11_setBase_11 : decode cX11_setBase 11 = .ok (.ireturn, 1) := by decide +kernel
theorem dX11_setBase_12 : decode cX11_setBase 12 = .ok (.aload_n 0, 1) := by decide +kernel
theorem dX11_setBase_13 : decode cX11_setBase 13 = .ok (.getfield 12, 3) := by decide +kernel
theorem dX11_setBase_16 : decode cX11_setBase 16 = .ok (.getfield 144, 3) := by decide +kernel
theorem dX11_setBase_19 : decode cX11_setBase 19 = .ok (.istore_n 2, 1) := by decide +kernel
theorem dX11_setBase_20 : decode cX11_setBase 20 = .ok (.aload_n 0, 1) := by decide +kernel
theorem dX11_setBase_21 : decode cX11_setBase 21 = .ok (.invokevirtual 107, 3) := by decide +kernel
theorem dX11_setBase_24 : decode cX11_setBase 24 = .ok (.aload_n 0, 1) := by decide +kernel
theorem dX11_setBase_25 : decode cX11_setBase 25 = .ok (.getfield 12, 3) := by decide +kernel
theorem dX11_setBase_28 : decode cX11_setBase 28 = .ok (.iload_n 1, 1) := by decide +kernel
theorem dX11_setBase_29 : decode cX11_setBase 29 = .ok (.putfield 144, 3) := by decide +kernel
theorem dX11_setBase_32 : decode cX11_setBase 32 = .ok (.iload_n 2, 1) := by decide +kernel
theorem dX11_setBase_33 : decode cX11_setBase 33 = .ok (.ireturn, 1) := by decide +kernel
theorem dX11_setComment_0 : decode cX11_setComment 0 = .ok (.iload_n 1, 1) := by decide +kernel
theorem dX11_setComment_1 : decode cX11_setComment 1 = .ok (.ifCond .eq 12, 3) := by decide +kernel
theorem dX11_setComment_4 : decode cX11_setComment 4 = .ok (.iload_n 1, 1) := by decide +kernel
theorem dX11_setComment_5 : decode cX11_setComment 5 = .ok (.invokestatic 185, 3) := by decide +kernel
theorem dX11_setComment_8 : decode cX11_setComment 8 = .ok (.ifCond .ne 5, 3) := by decide +kernel
theorem dX11_setComment_11 : decode cX11_setComment 11 = .ok (.iconst (-1), 1) := by decide +kernel
theorem dX11_setComment_12 : decode cX11_setComment 12 = .ok (.ireturn, 1) := by decide +kernel
theorem dX11_setComment_13 : decode cX11_setComment 13 = .ok (.aload_n 0, 1) := by decide +kernel
theorem dX11_setComment_14 : decode cX11_setComment 14 = .ok (.getfield 12, 3) := by decide +kernel
theorem dX11_setComment_17 : decode cX11_setComment 17 = .ok (.getfield 188, 3) := by decide +kernel
theorem dX11_setComment_20 : decode cX11_setComment 20 = .ok (.istore_n 2, 1) := by decide +kernel
theorem dX11_setComment_21 : decode cX11_setComment 21 = .ok (.aload_n 0, 1) := by decide +kernel
theorem dX11_setComment_22 : decode cX11_setComment 22 = .ok (.invokevirtual 107, 3) := by decide +kernel
theorem dX11_setComment_25 : decode cX11_setComment 25 = .ok (.aload_n 0, 1) := by decide +kernel
theorem dX11_setComment_26 : decode cX11_setComment 26 = .ok (.getfield 12, 3) := by decide +kernel
theorem dX11_setComment_29 : decode cX11_setComment 29 = .ok (.iload_n 1, 1) := by decide +kernel
theorem dX11_setComment_30 : decode cX11_setComment 30 = .ok (.putfield 188, 3) := by decide +kernel
theorem dX11_setComment_33 : decode cX11_setComment 33 = .ok (.iload_n 2, 1) := by decide +kernel
theorem dX11_setComment_34 : decode cX11_setComment 34 = .ok (.ireturn, 1) := by decide +kernel
theorem dX11_pair_0 : decode cX11_pair 0 = .ok (.iload_n 1, 1) := by decide +kernel
theorem dX11_pair_1 : decode cX11_pair 1 = .ok (.invokestatic 191, 3) := by decide +kernel
theorem dX11_pair_4 : decode cX11_pair 4 = .ok (.ifCond .eq 42, 3) := by decide +kernel
theorem dX11_pair_7 : decode cX11_pair 7 = .ok (.iload_n 2, 1) := by decide +kernel
theorem dX11_pair_8 : decode cX11_pair 8 = .ok (.iconst 0, 1) := by decide +kernel
theorem dX11_pair_9 : decode cX11_pair 9 = .ok (.bipush 9, 2) := by decide +kernel
theorem dX11_pair_11 : decode cX11_pair 11 = .ok (.invokestatic 85, 3) := by decide +kernel
theorem dX11_pair_14 : decode cX11_pair 14 = .ok (.ifCond .eq 32, 3) := by decide +kernel
theorem dX11_pair_17 : decode cX11_pair 17 = .ok (.iload_n 3, 1) := by decide +kernel
theorem dX11_pair_18 : decode cX11_pair 18 = .ok (.iconst 0, 1) := by decide +kernel
theorem dX11_pair_19 : decode cX11_pair 19 = .ok (.iconst 4, 1) := by decide +kernel
theorem dX11_pair_20 : decode cX11_pair 20 = .ok (.invokestatic 85, 3) := by decide +kernel
theorem dX11_pair_23 : decode cX11_pair 23 = .ok (.ifCond .eq 23, 3) := by decide +kernel
theorem dX11_pair_26 : decode cX11_pair 26 = .ok (.iload 4, 2) := by decide +kernel
theorem dX11_pair_28 : decode cX11_pair 28 = .ok (.iconst 0, 1) := by decide +kernel
theorem dX11_pair_29 : decode cX11_pair 29 = .ok (.iconst 1, 1) := by decide +kernel
theorem dX11_pair_30 : decode cX11_pair 30 = .ok (.invokestatic 85, 3) := by decide +kernel
theorem dX11_pair_33 : decode cX11_pair 33 = .ok (.ifCond .eq 13, 3) := by decide +kernel
theorem dX11_pair_36 : decode cX11_pair 36 = .ok (.iload 5, 2) := by decide +kernel
theorem dX11_pair_38 : decode cX11_pair 38 = .ok (.iconst 0, 1) := by decide +kernel
theorem dX11_pair_39 : decode cX11_pair 39 = .ok (.iconst 2, 1) := by decide +kernel
theorem dX11_pair_40 : decode cX11_pair 40 = .ok (.invokestatic 85, 3) := by decide +kernel
theorem dX11_pair_43 : decode cX11_pair 43 = .ok (.ifCond .ne 5, 3) := by decide +kernel
theorem dX11_pair_46 : decode cX11_pair 46 = .ok (.iconst (-1), 1) := by decide +kernel
theorem dX11_pair_47 : decode cX11_pair 47 = .ok (.ireturn, 1) := by decide +kernel
theorem dX11_pair_48 : decode cX11_pair 48 = .ok (.aload_n 0, 1) := by decide +kernel
theorem dX11_pair_49 : decode cX11_pair 49 = .ok (.getfield 26, 3) := by decide +kernel
theorem dX11_pair_52 : decode cX11_pair 52 = .ok (.aload_n 0, 1) := by decide +kernel
theorem dX11_pair_53 : decode cX11_pair 53 = .ok (.getfield 19, 3) := by decide +kernel
theorem dX11_pair_56 : decode cX11_pair 56 = .ok (.iconst 2, 1) := by decide +kernel
theorem dX11_pair_57 : decode cX11_pair 57 = .ok (.invokevirtual 194, 3) := by decide +kernel
theorem dX11_pair_60 : decode cX11_pair 60 = .ok (.istore 6, 2) := by decide +kernel
theorem dX11_pair_62 : decode cX11_pair 62 = .ok (.iload 6, 2) := by decide +kernel
theorem dX11_pair_64 : decode cX11_pair 64 = .ok (.ifCond .eq 6, 3) := by decide +kernel
theorem dX11_pair_67 : decode cX11_pair 67 = .ok (.iload 6, 2) := by decide +kernel
theorem dX11_pair_69 : decode cX11_pair 69 = .ok (.ireturn, 1) := by decide +kernel
theorem dX11_pair_70 : decode cX11_pair 70 = .ok (.aload_n 0, 1) := by decide +kernel
theorem dX11_pair_71 : decode cX11_pair 71 = .ok (.invokevirtual 107, 3) := by decide +kernel
theorem dX11_pair_74 : decode cX11_pair 74 = .ok (.aload_n 0, 1) := by decide +kernel
theorem dX11_pair_75 : decode cX11_pair 75 = .ok (.iload_n 1, 1) := by decide +kernel
theorem dX11_pair_76 : decode cX11_pair 76 = .ok (.iconst 1, 1) := by decide +kernel
theorem dX11_pair_77 : decode cX11_pair 77 = .ok (.iload_n 2, 1) := by decide +kernel
theorem dX11_pair_78 : decode cX11_pair 78 = .ok (.iload_n 3, 1) := by decide +kernel
theorem dX11_pair_79 : decode cX11_pair 79 = .ok (.invokevirtual 198, 3) := by decide +kernel
theorem dX11_pair_82 : decode cX11_pair 82 = .ok (.istore 7, 2) := by decide +kernel
theorem dX11_pair_84 : decode cX11_pair 84 = .ok (.aload_n 0, 1) := by decide +kernel
theorem dX11_pair_85 : decode cX11_pair 85 = .ok (.getfield 12, 3) := by decide +kernel
theorem dX11_pair_88 : decode cX11_pair 88 = .ok (.getfield 202, 3) := by decide +kernel
theorem dX11_pair_91 : decode cX11_pair 91 = .ok (.getfield 206, 3) := by decide +kernel
theorem dX11_pair_94 : decode cX11_pair 94 = .ok (.iload_n 1, 1) := by decide +kernel
theorem dX11_pair_95 : decode cX11_pair 95 = .ok (.iload 4, 2) := by decide +kernel
theorem dX11_pair_97 : decode cX11_pair 97 = .ok (.invokevirtual 151, 3) := by decide +kernel
theorem dX11_pair_100 : decode cX11_pair 100 = .ok (.aload_n 0, 1) := by decide +kernel
theorem dX11_pair_101 : decode cX11_pair 101 = .ok (.getfield 12, 3) := by decide +kernel
theorem dX11_pair_104 : decode cX11_pair 104 = .ok (.getfield 202, 3) := by decide +kernel
theorem dX11_pair_107 : decode cX11_pair 107 = .ok (.getfield 211, 3) := by decide +kernel
theorem dX11_pair_110 : decode cX11_pair 110 = .ok (.iload_n 1, 1) := by decide +kernel
theorem dX11_pair_111 : decode cX11_pair 111 = .ok (.iload 5, 2) := by decide +kernel
theorem dX11_pair_113 : decode cX11_pair 113 = .ok (.invokevirtual 151, 3) := by decide +kernel
theorem dX11_pair_116 : decode cX11_pair 116 = .ok (.iload 7, 2) := by decide +kernel
theorem dX11_pair_118 : decode cX11_pair 118 = .ok (.ireturn, 1) := by decide +kernel
theorem dX11_starter_0 : decode cX11_starter 0 = .ok (.aload_n 0, 1) := by decide +kernel
theorem dX11_starter_1 : decode cX11_starter 1 = .ok (.iload_n 1, 1) := by decide +kernel
theorem dX11_starter_2 : decode cX11_starter 2 = .ok (.iload_n 2, 1) := by decide +kernel
theorem dX11_starter_3 : decode cX11_starter 3 = .ok (.iload_n 3, 1) := by decide +kernel
theorem dX11_starter_4 : decode cX11_starter 4 = .ok (.invokevirtual 214, 3) := by decide +kernel
theorem dX11_starter_7 : decode cX11_starter 7 = .ok (.istore 4, 2) := by decide +kernel
theorem dX11_starter_9 : decode cX11_starter 9 = .ok (.iload 4, 2) := by decide +kernel
theorem dX11_starter_11 : decode cX11_starter 11 = .ok (.ifCond .eq 6, 3) := by decide +kernel
theorem dX11_starter_14 : decode cX11_starter 14 = .ok (.iload 4, 2) := by decide +kernel
theorem dX11_starter_16 : decode cX11_starter 16 = .ok (.ireturn, 1) := by decide +kernel
theorem dX11_starter_17 : decode cX11_starter 17 = .ok (.aload_n 0, 1) := by decide +kernel
theorem dX11_starter_18 : decode cX11_starter 18 = .ok (.invokevirtual 107, 3) := by decide +kernel
theorem dX11_starter_21 : decode cX11_starter 21 = .ok (.aload_n 0, 1) := by decide +kernel
theorem dX11_starter_22 : decode cX11_starter 22 = .ok (.iload_n 1, 1) := by decide +kernel
theorem dX11_starter_23 : decode cX11_starter 23 = .ok (.iconst 2, 1) := by decide +kernel
theorem dX11_starter_24 : decode cX11_starter 24 = .ok (.iload_n 2, 1) := by decide +kernel
theorem dX11_starter_25 : decode cX11_starter 25 = .ok (.iload_n 3, 1) := by decide +kernel
theorem dX11_starter_26 : decode cX11_starter 26 = .ok (.invokevirtual 198, 3) := by decide +kernel
theorem dX11_starter_29 : decode cX11_starter 29 = .ok (.ireturn, 1) := by decide +kernel
theorem dX11_joiner_0 : decode cX11_joiner 0 = .ok (.aload_n 0, 1) := by decide +kernel
theorem dX11_joiner_1 : decode cX11_joiner 1 = .ok (.iload_n 1, 1) := by decide +kernel
theorem dX11_joiner_2 : decode cX11_joiner 2 = .ok (.iload_n 2, 1) := by decide +kernel
theorem dX11_joiner_3 : decode cX11_joiner 3 = .ok (.iload_n 3, 1) := by decide +kernel
theorem dX11_joiner_4 : decode cX11_joiner 4 = .ok (.invokevirtual 214, 3) := by decide +kernel
theorem dX11_joiner_7 : decode cX11_joiner 7 = .ok (.istore 4, 2) := by decide +kernel
theorem dX11_joiner_9 : decode cX11_joiner 9 = .ok (.iload 4, 2) := by decide +kernel
theorem dX11_joiner_11 : decode cX11_joiner 11 = .ok (.ifCond .eq 6, 3) := by decide +kernel
theorem dX11_joiner_14 : decode cX11_joiner 14 = .ok (.iload 4, 2) := by decide +kernel
theorem dX11_joiner_16 : decode cX11_joiner 16 = .ok (.ireturn, 1) := by decide +kernel
theorem dX11_joiner_17 : decode cX11_joiner 17 = .ok (.aload_n 0, 1) := by decide +kernel
theorem dX11_joiner_18 : decode cX11_joiner 18 = .ok (.invokevirtual 107, 3) := by decide +kernel
theorem dX11_joiner_21 : decode cX11_joiner 21 = .ok (.aload_n 0, 1) := by decide +kernel
theorem dX11_joiner_22 : decode cX11_joiner 22 = .ok (.iload_n 1, 1) := by decide +kernel
theorem dX11_joiner_23 : decode cX11_joiner 23 = .ok (.iconst 3, 1) := by decide +kernel
theorem dX11_joiner_24 : decode cX11_joiner 24 = .ok (.iload_n 2, 1) := by decide +kernel
theorem dX11_joiner_25 : decode cX11_joiner 25 = .ok (.iload_n 3, 1) := by decide +kernel
theorem dX11_joiner_26 : decode cX11_joiner 26 = .ok (.invokevirtual 198, 3) := by decide +kernel
theorem dX11_joiner_29 : decode cX11_joiner 29 = .ok (.ireturn, 1) := by decide +kernel
theorem dX11_dropRule_0 : decode cX11_dropRule 0 = .ok (.iload_n 1, 1) := by decide +kernel
theorem dX11_dropRule_1 : decode cX11_dropRule 1 = .ok (.invokestatic 191, 3) := by decide +kernel
theorem dX11_dropRule_4 : decode cX11_dropRule 4 = .ok (.ifCond .eq 17, 3) := by decide +kernel
theorem dX11_dropRule_7 : decode cX11_dropRule 7 = .ok (.aload_n 0, 1) := by decide +kernel
theorem dX11_dropRule_8 : decode cX11_dropRule 8 = .ok (.getfield 12, 3) := by decide +kernel
theorem dX11_dropRule_11 : decode cX11_dropRule 11 = .ok (.getfield 202, 3) := by decide +kernel
theorem dX11_dropRule_14 : decode cX11_dropRule 14 = .ok (.iload_n 1, 1) := by decide +kernel
theorem dX11_dropRule_15 : decode cX11_dropRule 15 = .ok (.invokevirtual 217, 3) := by decide +kernel
theorem dX11_dropRule_18 : decode cX11_dropRule 18 = .ok (.ifCond .ne 5, 3) := by decide +kernel
theorem dX11_dropRule_21 : decode cX11_dropRule 21 = .ok (.iconst (-1), 1) := by decide +kernel
theorem dX11_dropRule_22 : decode cX11_dropRule 22 = .ok (.ireturn, 1) := by decide +kernel
theorem dX11_dropRule_23 : decode cX11_dropRule 23 = .ok (.aload_n 0, 1) := by decide +kernel
theorem dX11_dropRule_24 : decode cX11_dropRule 24 = .ok (.invokevirtual 107, 3) := by decide +kernel
theorem dX11_dropRule_27 : decode cX11_dropRule 27 = .ok (.aload_n 0, 1) := by decide +kernel
theorem dX11_dropRule_28 : decode cX11_dropRule 28 = .ok (.getfield 12, 3) := by decide +kernel
theorem dX11_dropRule_31 : decode cX11_dropRule 31 = .ok (.getfield 202, 3) := by decide +kernel
theorem dX11_dropRule_34 : decode cX11_dropRule 34 = .ok (.getfield 218, 3) := by decide +kernel
theorem dX11_dropRule_37 : decode cX11_dropRule 37 = .ok (.iload_n 1, 1) := by decide +kernel
theorem dX11_dropRule_38 : decode cX11_dropRule 38 = .ok (.iconst 0, 1) := by decide +kernel
theorem dX11_dropRule_39 : decode cX11_dropRule 39 = .ok (.invokevirtual 151, 3) := by decide +kernel
theorem dX11_dropRule_42 : decode cX11_dropRule 42 = .ok (.aload_n 0, 1) := by decide +kernel
theorem dX11_dropRule_43 : decode cX11_dropRule 43 = .ok (.getfield 12, 3) := by decide +kernel
theorem dX11_dropRule_46 : decode cX11_dropRule 46 = .ok (.getfield 202, 3) := by decide +kernel
theorem dX11_dropRule_49 : decode cX11_dropRule 49 = .ok (.invokevirtual 221, 3) := by decide +kernel
theorem dX11_dropRule_52 : decode cX11_dropRule 52 = .ok (.ireturn, 1) := by decide +kernel
theorem dX11_wanted_0 : decode cX11_wanted 0 = .ok (.aload_n 0, 1) := by decide +kernel
theorem dX11_wanted_1 : decode cX11_wanted 1 = .ok (.getfield 12, 3) := by decide +kernel
theorem dX11_wanted_4 : decode cX11_wanted 4 = .ok (.getfield 96, 3) := by decide +kernel
theorem dX11_wanted_7 : decode cX11_wanted 7 = .ok (.iload_n 1, 1) := by decide +kernel
theorem dX11_wanted_8 : decode cX11_wanted 8 = .ok (.invokevirtual 117, 3) := by decide +kernel
theorem dX11_wanted_11 : decode cX11_wanted 11 = .ok (.ifCond .ne 5, 3) := by decide +kernel
theorem dX11_wanted_14 : decode cX11_wanted 14 = .ok (.iconst (-1), 1) := by decide +kernel
theorem dX11_wanted_15 : decode cX11_wanted 15 = .ok (.ireturn, 1) := by decide +kernel
theorem dX11_wanted_16 : decode cX11_wanted 16 = .ok (.aload_n 0, 1) := by decide +kernel
theorem dX11_wanted_17 : decode cX11_wanted 17 = .ok (.invokevirtual 138, 3) := by decide +kernel
theorem dX11_wanted_20 : decode cX11_wanted 20 = .ok (.aload_n 0, 1) := by decide +kernel
theorem dX11_wanted_21 : decode cX11_wanted 21 = .ok (.getfield 67, 3) := by decide +kernel
theorem dX11_wanted_24 : decode cX11_wanted 24 = .ok (.iload_n 1, 1) := by decide +kernel
theorem dX11_wanted_25 : decode cX11_wanted 25 = .ok (.aload_n 0, 1) := by decide +kernel
theorem dX11_wanted_26 : decode cX11_wanted 26 = .ok (.getfield 12, 3) := by decide +kernel
theorem dX11_wanted_29 : decode cX11_wanted 29 = .ok (.getfield 96, 3) := by decide +kernel
theorem dX11_wanted_32 : decode cX11_wanted 32 = .ok (.getfield 121, 3) := by decide +kernel
theorem dX11_wanted_35 : decode cX11_wanted 35 = .ok (.aload_n 0, 1) := by decide +kernel
theorem dX11_wanted_36 : decode cX11_wanted 36 = .ok (.getfield 12, 3) := by decide +kernel
theorem dX11_wanted_39 : decode cX11_wanted 39 = .ok (.getfield 141, 3) := by decide +kernel
theorem dX11_wanted_42 : decode cX11_wanted 42 = .ok (.aload_n 0, 1) := by decide +kernel
theorem dX11_wanted_43 : decode cX11_wanted 43 = .ok (.getfield 12, 3) := by decide +kernel
theorem dX11_wanted_46 : decode cX11_wanted 46 = .ok (.getfield 144, 3) := by decide +kernel
theorem dX11_wanted_49 : decode cX11_wanted 49 = .ok (.invokevirtual 147, 3) := by decide +kernel
theorem dX11_wanted_52 : decode cX11_wanted 52 = .ok (.ireturn, 1) := by decide +kernel
theorem dX11_reason_0 : decode cX11_reason 0 = .ok (.aload_n 0, 1) := by decide +kernel
theorem dX11_reason_1 : decode cX11_reason 1 = .ok (.getfield 12, 3) := by decide +kernel
theorem dX11_reason_4 : decode cX11_reason 4 = .ok (.getfield 96, 3) := by decide +kernel
theorem dX11_reason_7 : decode cX11_reason 7 = .ok (.iload_n 1, 1) := by decide +kernel
theorem dX11_reason_8 : decode cX11_reason 8 = .ok (.invokevirtual 117, 3) := by decide +kernel
theorem dX11_reason_11 : decode cX11_reason 11 = .ok (.ifCond .ne 5, 3) := by decide +kernel
theorem dX11_reason_14 : decode cX11_reason 14 = .ok (.iconst (-1), 1) := by decide +kernel
theorem dX11_reason_15 : decode cX11_reason 15 = .ok (.ireturn, 1) := by decide +kernel
theorem dX11_reason_16 : decode cX11_reason 16 = .ok (.aload_n 0, 1) := by decide +kernel
theorem dX11_reason_17 : decode cX11_reason 17 = .ok (.invokevirtual 138, 3) := by decide +kernel
theorem dX11_reason_20 : decode cX11_reason 20 = .ok (.aload_n 0, 1) := by decide +kernel
theorem dX11_reason_21 : decode cX11_reason 21 = .ok (.getfield 67, 3) := by decide +kernel
theorem dX11_reason_24 : decode cX11_reason 24 = .ok (.getfield 225, 3) := by decide +kernel
theorem dX11_reason_27 : decode cX11_reason 27 = .ok (.iload_n 1, 1) := by decide +kernel
theorem dX11_reason_28 : decode cX11_reason 28 = .ok (.invokevirtual 124, 3) := by decide +kernel
theorem dX11_reason_31 : decode cX11_reason 31 = .ok (.ireturn, 1) := by decide +kernel
theorem dX11_decidingRule_0 : decode cX11_decidingRule 0 = .ok (.aload_n 0, 1) := by decide +kernel
theorem dX11_decidingRule_1 : decode cX11_decidingRule 1 = .ok (.getfield 12, 3) := by decide +kernel
theorem dX11_decidingRule_4 : decode cX11_decidingRule 4 = .ok (.getfield 96, 3) := by decide +kernel
theorem dX11_decidingRule_7 : decode cX11_decidingRule 7 = .ok (.iload_n 1, 1) := by decide +kernel
theorem dX11_decidingRule_8 : decode cX11_decidingRule 8 = .ok (.invokevirtual 117, 3) := by decide +kernel
theorem dX11_decidingRule_11 : decode cX11_decidingRule 11 = .ok (.ifCond .ne 5, 3) := by decide +kernel
theorem dX11_decidingRule_14 : decode cX11_decidingRule 14 = .ok (.iconst (-1), 1) := by decide +kernel
theorem dX11_decidingRule_15 : decode cX11_decidingRule 15 = .ok (.ireturn, 1) := by decide +kernel
theorem dX11_decidingRule_16 : decode cX11_decidingRule 16 = .ok (.aload_n 0, 1) := by decide +kernel
theorem dX11_decidingRule_17 : decode cX11_decidingRule 17 = .ok (.invokevirtual 138, 3) := by decide +kernel
theorem dX11_decidingRule_20 : decode cX11_decidingRule 20 = .ok (.aload_n 0, 1) := by decide +kernel
theorem dX11_decidingRule_21 : decode cX11_decidingRule 21 = .ok (.getfield 67, 3) := by decide +kernel
theorem dX11_decidingRule_24 : decode cX11_decidingRule 24 = .ok (.getfield 228, 3) := by decide +kernel
theorem dX11_decidingRule_27 : decode cX11_decidingRule 27 = .ok (.iload_n 1, 1) := by decide +kernel
theorem dX11_decidingRule_28 : decode cX11_decidingRule 28 = .ok (.invokevirtual 124, 3) := by decide +kernel
theorem dX11_decidingRule_31 : decode cX11_decidingRule 31 = .ok (.istore_n 2, 1) := by decide +kernel
theorem dX11_decidingRule_32 : decode cX11_decidingRule 32 = .ok (.iload_n 2, 1) := by decide +kernel
theorem dX11_decidingRule_33 : decode cX11_decidingRule 33 = .ok (.iconst (-1), 1) := by decide +kernel
theorem dX11_decidingRule_34 : decode cX11_decidingRule 34 = .ok (.if_icmp .ne 8, 3) := by decide +kernel
theorem dX11_decidingRule_37 : decode cX11_decidingRule 37 = .ok (.bipush (-9), 2) := by decide +kernel
theorem dX11_decidingRule_39 : decode cX11_decidingRule 39 = .ok (.goto 4, 3) := by decide +kernel
theorem dX11_decidingRule_42 : decode cX11_decidingRule 42 = .ok (.iload_n 2, 1) := by decide +kernel
theorem dX11_decidingRule_43 : decode cX11_decidingRule 43 = .ok (.ireturn, 1) := by decide +kernel
theorem dX11_wouldChange_0 : decode cX11_wouldChange 0 = .ok (.aload_n 0, 1) := by decide +kernel
theorem dX11_wouldChange_1 : decode cX11_wouldChange 1 = .ok (.invokevirtual 138, 3) := by decide +kernel
theorem dX11_wouldChange_4 : decode cX11_wouldChange 4 = .ok (.aload_n 0, 1) := by decide +kernel
theorem dX11_wouldChange_5 : decode cX11_wouldChange 5 = .ok (.aload_n 0, 1) := by decide +kernel
theorem dX11_wouldChange_6 : decode cX11_wouldChange 6 = .ok (.getfield 12, 3) := by decide +kernel
theorem dX11_wouldChange_9 : decode cX11_wouldChange 9 = .ok (.getfield 141, 3) := by decide +kernel
theorem dX11_wouldChange_12 : decode cX11_wouldChange 12 = .ok (.aload_n 0, 1) := by decide +kernel
theorem dX11_wouldChange_13 : decode cX11_wouldChange 13 = .ok (.getfield 12, 3) := by decide +kernel
theorem dX11_wouldChange_16 : decode cX11_wouldChange 16 = .ok (.getfield 144, 3) := by decide +kernel
theorem dX11_wouldChange_19 : decode cX11_wouldChange 19 = .ok (.invokevirtual 231, 3) := by decide +kernel
theorem dX11_wouldChange_22 : decode cX11_wouldChange 22 = .ok (.ireturn, 1) := by decide +kernel
theorem dX11_changesWith_0 : decode cX11_changesWith 0 = .ok (.iload_n 1, 1) := by decide +kernel
theorem dX11_changesWith_1 : decode cX11_changesWith 1 = .ok (.iconst 1, 1) := by decide +kernel
theorem dX11_changesWith_2 : decode cX11_changesWith 2 = .ok (.bipush 8, 2) := by decide +kernel
theorem dX11_changesWith_4 : decode cX11_changesWith 4 = .ok (.invokestatic 85, 3) := by decide +kernel
theorem dX11_changesWith_7 : decode cX11_changesWith 7 = .ok (.ifCond .eq 13, 3) := by decide +kernel
theorem dX11_changesWith_10 : decode cX11_changesWith 10 = .ok (.iload_n 2, 1) := by decide +kernel
theorem dX11_changesWith_11 : decode cX11_changesWith 11 = .ok (.iconst 0, 1) := by decide +kernel
theorem dX11_changesWith_12 : decode cX11_changesWith 12 = .ok (.bipush 20, 2) := by decide +kernel
theorem dX11_changesWith_14 : decode cX11_changesWith 14 = .ok (.invokestatic 85, 3) := by decide +kernel
theorem dX11_changesWith_17 : decode cX11_changesWith 17 = .ok (.ifCond .ne 5, 3) := by decide +kernel
theorem dX11_changesWith_20 : decode cX11_changesWith 20 = .ok (.iconst (-1), 1) := by decide +kernel
theorem dX11_changesWith_21 : decode cX11_changesWith 21 = .ok (.ireturn, 1) := by decide +kernel
theorem dX11_changesWith_22 : decode cX11_changesWith 22 = .ok (.aload_n 0, 1) := by decide +kernel
theorem dX11_changesWith_23 : decode cX11_changesWith 23 = .ok (.invokevirtual 138, 3) := by decide +kernel
theorem dX11_changesWith_26 : decode cX11_changesWith 26 = .ok (.aload_n 0, 1) := by decide +kernel
theorem dX11_changesWith_27 : decode cX11_changesWith 27 = .ok (.iload_n 1, 1) := by decide +kernel
theorem dX11_changesWith_28 : decode cX11_changesWith 28 = .ok (.iload_n 2, 1) := by decide +kernel
theorem dX11_changesWith_29 : decode cX11_changesWith 29 = .ok (.invokevirtual 231, 3) := by decide +kernel
theorem dX11_changesWith_32 : decode cX11_changesWith 32 = .ok (.invokestatic 234, 3) := by decide +kernel
theorem dX11_changesWith_35 : decode cX11_changesWith 35 = .ok (.ireturn, 1) := by decide +kernel
theorem dX11_fewestChanges_0 : decode cX11_fewestChanges 0 = .ok (.aload_n 0, 1) := by decide +kernel
theorem dX11_fewestChanges_1 : decode cX11_fewestChanges 1 = .ok (.invokevirtual 138, 3) := by decide +kernel
theorem dX11_fewestChanges_4 : decode cX11_fewestChanges 4 = .ok (.aload_n 0, 1) := by decide +kernel
theorem dX11_fewestChanges_5 : decode cX11_fewestChanges 5 = .ok (.invokevirtual 239, 3) := by decide +kernel
theorem dX11_fewestChanges_8 : decode cX11_fewestChanges 8 = .ok (.istore_n 1, 1) := by decide +kernel
theorem dX11_fewestChanges_9 : decode cX11_fewestChanges 9 = .ok (.aload_n 0, 1) := by decide +kernel
theorem dX11_fewestChanges_10 : decode cX11_fewestChanges 10 = .ok (.iload_n 1, 1) := by decide +kernel
theorem dX11_fewestChanges_11 : decode cX11_fewestChanges 11 = .ok (.bipush 100, 2) := by decide +kernel
theorem dX11_fewestChanges_13 : decode cX11_fewestChanges 13 = .ok (.idiv, 1) := by decide +kernel
theorem dX11_fewestChanges_14 : decode cX11_fewestChanges 14 = .ok (.iload_n 1, 1) := by decide +kernel
theorem dX11_fewestChanges_15 : decode cX11_fewestChanges 15 = .ok (.bipush 100, 2) := by decide +kernel
theorem dX11_fewestChanges_17 : decode cX11_fewestChanges 17 = .ok (.irem, 1) := by decide +kernel
theorem dX11_fewestChanges_18 : decode cX11_fewestChanges 18 = .ok (.invokevirtual 231, 3) := by decide +kernel
theorem dX11_fewestChanges_21 : decode cX11_fewestChanges 21 = .ok (.invokestatic 234, 3) := by decide +kernel
theorem dX11_fewestChanges_24 : decode cX11_fewestChanges 24 = .ok (.ireturn, 1) := by decide +kernel
theorem dX11_bestStep_0 : decode cX11_bestStep 0 = .ok (.aload_n 0, 1) := by decide +kernel
theorem dX11_bestStep_1 : decode cX11_bestStep 1 = .ok (.invokevirtual 138, 3) := by decide +kernel
theorem dX11_bestStep_4 : decode cX11_bestStep 4 = .ok (.aload_n 0, 1) := by decide +kernel
theorem dX11_bestStep_5 : decode cX11_bestStep 5 = .ok (.invokevirtual 239, 3) := by decide +kernel
theorem dX11_bestStep_8 : decode cX11_bestStep 8 = .ok (.bipush 100, 2) := by decide +kernel
theorem dX11_bestStep_10 : decode cX11_bestStep 10 = .ok (.idiv, 1) := by decide +kernel
theorem dX11_bestStep_11 : decode cX11_bestStep 11 = .ok (.ireturn, 1) := by decide +kernel
theorem dX11_bestBase_0 : decode cX11_bestBase 0 = .ok (.aload_n 0, 1) := by decide +kernel
theorem dX11_bestBase_1 : decode cX11_bestBase 1 = .ok (.invokevirtual 138, 3) := by decide +kernel
theorem dX11_bestBase_4 : decode cX11_bestBase 4 = .ok (.aload_n 0, 1) := by decide +kernel
theorem dX11_bestBase_5 : decode cX11_bestBase 5 = .ok (.invokevirtual 239, 3) := by decide +kernel
theorem dX11_bestBase_8 : decode cX11_bestBase 8 = .ok (.bipush 100, 2) := by decide +kernel
theorem dX11_bestBase_10 : decode cX11_bestBase 10 = .ok (.irem, 1) := by decide +kernel
theorem dX11_bestBase_11 : decode cX11_bestBase 11 = .ok (.ireturn, 1) := by decide +kernel
theorem dX11_tokens_0 : decode cX11_tokens 0 = .ok (.aload_n 0, 1) := by decide +kernel
theorem dX11_tokens_1 : decode cX11_tokens 1 = .ok (.getfield 12, 3) := by decide +kernel
theorem dX11_tokens_4 : decode cX11_tokens 4 = .ok (.getfield 96, 3) := by decide +kernel
theorem dX11_tokens_7 : decode cX11_tokens 7 = .ok (.iload_n 1, 1) := by decide +kernel
theorem dX11_tokens_8 : decode cX11_tokens 8 = .ok (.invokevirtual 117, 3) := by decide +kernel
theorem dX11_tokens_11 : decode cX11_tokens 11 = .ok (.ifCond .ne 5, 3) := by decide +kernel
theorem dX11_tokens_14 : decode cX11_tokens 14 = .ok (.iconst (-1), 1) := by decide +kernel
theorem dX11_tokens_15 : decode cX11_tokens 15 = .ok (.ireturn, 1) := by decide +kernel
theorem dX11_tokens_16 : decode cX11_tokens 16 = .ok (.aload_n 0, 1) := by decide +kernel
theorem dX11_tokens_17 : decode cX11_tokens 17 = .ok (.invokevirtual 138, 3) := by decide +kernel
theorem dX11_tokens_20 : decode cX11_tokens 20 = .ok (.aload_n 0, 1) := by decide +kernel
theorem dX11_tokens_21 : decode cX11_tokens 21 = .ok (.getfield 53, 3) := by decide +kernel
theorem dX11_tokens_24 : decode cX11_tokens 24 = .ok (.iload_n 1, 1) := by decide +kernel
theorem dX11_tokens_25 : decode cX11_tokens 25 = .ok (.invokevirtual 242, 3) := by decide +kernel
theorem dX11_tokens_28 : decode cX11_tokens 28 = .ok (.ireturn, 1) := by decide +kernel
theorem dX11_tokenAt_0 : decode cX11_tokenAt 0 = .ok (.aload_n 0, 1) := by decide +kernel
theorem dX11_tokenAt_1 : decode cX11_tokenAt 1 = .ok (.invokevirtual 138, 3) := by decide +kernel
theorem dX11_tokenAt_4 : decode cX11_tokenAt 4 = .ok (.aload_n 0, 1) := by decide +kernel
theorem dX11_tokenAt_5 : decode cX11_tokenAt 5 = .ok (.iload_n 1, 1) := by decide +kernel
theorem dX11_tokenAt_6 : decode cX11_tokenAt 6 = .ok (.iload_n 2, 1) := by decide +kernel
theorem dX11_tokenAt_7 : decode cX11_tokenAt 7 = .ok (.invokevirtual 245, 3) := by decide +kernel
theorem dX11_tokenAt_10 : decode cX11_tokenAt 10 = .ok (.istore_n 3, 1) := by decide +kernel
theorem dX11_tokenAt_11 : decode cX11_tokenAt 11 = .ok (.iload_n 3, 1) := by decide +kernel
theorem dX11_tokenAt_12 : decode cX11_tokenAt 12 = .ok (.iconst (-1), 1) := by decide +kernel
theorem dX11_tokenAt_13 : decode cX11_tokenAt 13 = .ok (.if_icmp .ne 7, 3) := by decide +kernel
theorem dX11_tokenAt_16 : decode cX11_tokenAt 16 = .ok (.iconst (-1), 1) := by decide +kernel
theorem dX11_tokenAt_17 : decode cX11_tokenAt 17 = .ok (.goto 14, 3) := by decide +kernel
theorem dX11_tokenAt_20 : decode cX11_tokenAt 20 = .ok (.aload_n 0, 1) := by decide +kernel
theorem dX11_tokenAt_21 : decode cX11_tokenAt 21 = .ok (.getfield 53, 3) := by decide +kernel
theorem dX11_tokenAt_24 : decode cX11_tokenAt 24 = .ok (.getfield 248, 3) := by decide +kernel
theorem dX11_tokenAt_27 : decode cX11_tokenAt 27 = .ok (.iload_n 3, 1) := by decide +kernel
theorem dX11_tokenAt_28 : decode cX11_tokenAt 28 = .ok (.invokevirtual 124, 3) := by decide +kernel
theorem dX11_tokenAt_31 : decode cX11_tokenAt 31 = .ok (.ireturn, 1) := by decide +kernel
theorem dX11_tokenLength_0 : decode cX11_tokenLength 0 = .ok (.aload_n 0, 1) := by decide +kernel
theorem dX11_tokenLength_1 : decode cX11_tokenLength 1 = .ok (.invokevirtual 138, 3) := by decide +kernel
theorem dX11_tokenLength_4 : decode cX11_tokenLength 4 = .ok (.aload_n 0, 1) := by decide +kernel
theorem dX11_tokenLength_5 : decode cX11_tokenLength 5 = .ok (.iload_n 1, 1) := by decide +kernel
theorem dX11_tokenLength_6 : decode cX11_tokenLength 6 = .ok (.iload_n 2, 1) := by decide +kernel
theorem dX11_tokenLength_7 : decode cX11_tokenLength 7 = .ok (.invokevirtual 245, 3) := by decide +kernel
theorem dX11_tokenLength_10 : decode cX11_tokenLength 10 = .ok (.istore_n 3, 1) := by decide +kernel
theorem dX11_tokenLength_11 : decode cX11_tokenLength 11 = .ok (.iload_n 3, 1) := by decide +kernel
theorem dX11_tokenLength_12 : decode cX11_tokenLength 12 = .ok (.iconst (-1), 1) := by decide +kernel
theorem dX11_tokenLength_13 : decode cX11_tokenLength 13 = .ok (.if_icmp .ne 7, 3) := by decide +kernel
theorem dX11_tokenLength_16 : decode cX11_tokenLength 16 = .ok (.iconst (-1), 1) := by decide +kernel
theorem dX11_tokenLength_17 : decode cX11_tokenLength 17 = .ok (.goto 14, 3) := by decide +kernel
theorem dX11_tokenLength_20 : decode cX11_tokenLength 20 = .ok (.aload_n 0, 1) := by decide +kernel
theorem dX11_tokenLength_21 : decode cX11_tokenLength 21 = .ok (.getfield 53, 3) := by decide +kernel
theorem dX11_tokenLength_24 : decode cX11_tokenLength 24 = .ok (.getfield 251, 3) := by decide +kernel
theorem dX11_tokenLength_27 : decode cX11_tokenLength 27 = .ok (.iload_n 3, 1) := by decide +kernel
theorem dX11_tokenLength_28 : decode cX11_tokenLength 28 = .ok (.invokevirtual 124, 3) := by decide +kernel
theorem dX11_tokenLength_31 : decode cX11_tokenLength 31 = .ok (.ireturn, 1) := by decide +kernel
theorem dX11_tokenKind_0 : decode cX11_tokenKind 0 = .ok (.aload_n 0, 1) := by decide +kernel
theorem dX11_tokenKind_1 : decode cX11_tokenKind 1 = .ok (.invokevirtual 138, 3) := by decide +kernel
theorem dX11_tokenKind_4 : decode cX11_tokenKind 4 = .ok (.aload_n 0, 1) := by decide +kernel
theorem dX11_tokenKind_5 : decode cX11_tokenKind 5 = .ok (.iload_n 1, 1) := by decide +kernel
theorem dX11_tokenKind_6 : decode cX11_tokenKind 6 = .ok (.iload_n 2, 1) := by decide +kernel
theorem dX11_tokenKind_7 : decode cX11_tokenKind 7 = .ok (.invokevirtual 245, 3) := by decide +kernel
theorem dX11_tokenKind_10 : decode cX11_tokenKind 10 = .ok (.istore_n 3, 1) := by decide +kernel
theorem dX11_tokenKind_11 : decode cX11_tokenKind 11 = .ok (.iload_n 3, 1) := by decide +kernel
theorem dX11_tokenKind_12 : decode cX11_tokenKind 12 = .ok (.iconst (-1), 1) := by decide +kernel
theorem dX11_tokenKind_13 : decode cX11_tokenKind 13 = .ok (.if_icmp .ne 7, 3) := by decide +kernel
theorem dX11_tokenKind_16 : decode cX11_tokenKind 16 = .ok (.iconst (-1), 1) := by decide +kernel
theorem dX11_tokenKind_17 : decode cX11_tokenKind 17 = .ok (.goto 14, 3) := by decide +kernel
theorem dX11_tokenKind_20 : decode cX11_tokenKind 20 = .ok (.aload_n 0, 1) := by decide +kernel
theorem dX11_tokenKind_21 : decode cX11_tokenKind 21 = .ok (.getfield 53, 3) := by decide +kernel
theorem dX11_tokenKind_24 : decode cX11_tokenKind 24 = .ok (.getfield 252, 3) := by decide +kernel
theorem dX11_tokenKind_27 : decode cX11_tokenKind 27 = .ok (.iload_n 3, 1) := by decide +kernel
theorem dX11_tokenKind_28 : decode cX11_tokenKind 28 = .ok (.invokevirtual 124, 3) := by decide +kernel
theorem dX11_tokenKind_31 : decode cX11_tokenKind 31 = .ok (.ireturn, 1) := by decide +kernel
theorem dX11_openedBy_0 : decode cX11_openedBy 0 = .ok (.aload_n 0, 1) := by decide +kernel
theorem dX11_openedBy_1 : decode cX11_openedBy 1 = .ok (.invokevirtual 138, 3) := by decide +kernel
theorem dX11_openedBy_4 : decode cX11_openedBy 4 = .ok (.aload_n 0, 1) := by decide +kernel
theorem dX11_openedBy_5 : decode cX11_openedBy 5 = .ok (.iload_n 1, 1) := by decide +kernel
theorem dX11_openedBy_6 : decode cX11_openedBy 6 = .ok (.iload_n 2, 1) := by decide +kernel
theorem dX11_openedBy_7 : decode cX11_openedBy 7 = .ok (.invokevirtual 245, 3) := by decide +kernel
theorem dX11_openedBy_10 : decode cX11_openedBy 10 = .ok (.istore_n 3, 1) := by decide +kernel
theorem dX11_openedBy_11 : decode cX11_openedBy 11 = .ok (.iload_n 3, 1) := by decide +kernel
theorem dX11_openedBy_12 : decode cX11_openedBy 12 = .ok (.iconst (-1), 1) := by decide +kernel
theorem dX11_openedBy_13 : decode cX11_openedBy 13 = .ok (.if_icmp .ne 7, 3) := by decide +kernel
theorem dX11_openedBy_16 : decode cX11_openedBy 16 = .ok (.iconst (-1), 1) := by decide +kernel
theorem dX11_openedBy_17 : decode cX11_openedBy 17 = .ok (.goto 18, 3) := by decide +kernel
theorem dX11_openedBy_20 : decode cX11_openedBy 20 = .ok (.aload_n 0, 1) := by decide +kernel
theorem dX11_openedBy_21 : decode cX11_openedBy 21 = .ok (.aload_n 0, 1) := by decide +kernel
theorem dX11_openedBy_22 : decode cX11_openedBy 22 = .ok (.getfield 60, 3) := by decide +kernel
theorem dX11_openedBy_25 : decode cX11_openedBy 25 = .ok (.getfield 255, 3) := by decide +kernel
theorem dX11_openedBy_28 : decode cX11_openedBy 28 = .ok (.iload_n 3, 1) := by decide +kernel
theorem dX11_openedBy_29 : decode cX11_openedBy 29 = .ok (.invokevirtual 124, 3) := by decide +kernel
theorem dX11_openedBy_32 : decode cX11_openedBy 32 = .ok (.invokevirtual 258, 3) := by decide +kernel
theorem dX11_openedBy_35 : decode cX11_openedBy 35 = .ok (.ireturn, 1) := by decide +kernel
theorem dX11_closedBy_0 : decode cX11_closedBy 0 = .ok (.aload_n 0, 1) := by decide +kernel
theorem dX11_closedBy_1 : decode cX11_closedBy 1 = .ok (.invokevirtual 138, 3) := by decide +kernel
theorem dX11_closedBy_4 : decode cX11_closedBy 4 = .ok (.aload_n 0, 1) := by decide +kernel
theorem dX11_closedBy_5 : decode cX11_closedBy 5 = .ok (.iload_n 1, 1) := by decide +kernel
theorem dX11_closedBy_6 : decode cX11_closedBy 6 = .ok (.iload_n 2, 1) := by decide +kernel
theorem dX11_closedBy_7 : decode cX11_closedBy 7 = .ok (.invokevirtual 245, 3) := by decide +kernel
theorem dX11_closedBy_10 : decode cX11_closedBy 10 = .ok (.istore_n 3, 1) := by decide +kernel
theorem dX11_closedBy_11 : decode cX11_closedBy 11 = .ok (.iload_n 3, 1) := by decide +kernel
theorem dX11_closedBy_12 : decode cX11_closedBy 12 = .ok (.iconst (-1), 1) := by decide +kernel
theorem dX11_closedBy_13 : decode cX11_closedBy 13 = .ok (.if_icmp .ne 7, 3) := by decide +kernel
theorem dX11_closedBy_16 : decode cX11_closedBy 16 = .ok (.iconst (-1), 1) := by decide +kernel
theorem dX11_closedBy_17 : decode cX11_closedBy 17 = .ok (.goto 18, 3) := by decide +kernel
theorem dX11_closedBy_20 : decode cX11_closedBy 20 = .ok (.aload_n 0, 1) := by decide +kernel
theorem dX11_closedBy_21 : decode cX11_closedBy 21 = .ok (.aload_n 0, 1) := by decide +kernel
theorem dX11_closedBy_22 : decode cX11_closedBy 22 = .ok (.getfield 60, 3) := by decide +kernel
theorem dX11_closedBy_25 : decode cX11_closedBy 25 = .ok (.getfield 261, 3) := by decide +kernel
theorem dX11_closedBy_28 : decode cX11_closedBy 28 = .ok (.iload_n 3, 1) := by decide +kernel
theorem dX11_closedBy_29 : decode cX11_closedBy 29 = .ok (.invokevirtual 124, 3) := by decide +kernel
theorem dX11_closedBy_32 : decode cX11_closedBy 32 = .ok (.invokevirtual 258, 3) := by decide +kernel
theorem dX11_closedBy_35 : decode cX11_closedBy 35 = .ok (.ireturn, 1) := by decide +kernel
theorem dX11_depth_0 : decode cX11_depth 0 = .ok (.iload_n 1, 1) := by decide +kernel
theorem dX11_depth_1 : decode cX11_depth 1 = .ok (.iconst 0, 1) := by decide +kernel
theorem dX11_depth_2 : decode cX11_depth 2 = .ok (.aload_n 0, 1) := by decide +kernel
theorem dX11_depth_3 : decode cX11_depth 3 = .ok (.getfield 12, 3) := by decide +kernel
theorem dX11_depth_6 : decode cX11_depth 6 = .ok (.getfield 96, 3) := by decide +kernel
theorem dX11_depth_9 : decode cX11_depth 9 = .ok (.getfield 100, 3) := by decide +kernel
theorem dX11_depth_12 : decode cX11_depth 12 = .ok (.invokestatic 85, 3) := by decide +kernel
theorem dX11_depth_15 : decode cX11_depth 15 = .ok (.ifCond .ne 5, 3) := by decide +kernel
theorem dX11_depth_18 : decode cX11_depth 18 = .ok (.iconst (-1), 1) := by decide +kernel
theorem dX11_depth_19 : decode cX11_depth 19 = .ok (.ireturn, 1) := by decide +kernel
theorem dX11_depth_20 : decode cX11_depth 20 = .ok (.aload_n 0, 1) := by decide +kernel
theorem dX11_depth_21 : decode cX11_depth 21 = .ok (.invokevirtual 138, 3) := by decide +kernel
theorem dX11_depth_24 : decode cX11_depth 24 = .ok (.aload_n 0, 1) := by decide +kernel
theorem dX11_depth_25 : decode cX11_depth 25 = .ok (.getfield 60, 3) := by decide +kernel
theorem dX11_depth_28 : decode cX11_depth 28 = .ok (.getfield 264, 3) := by decide +kernel
theorem dX11_depth_31 : decode cX11_depth 31 = .ok (.iload_n 1, 1) := by decide +kernel
theorem dX11_depth_32 : decode cX11_depth 32 = .ok (.invokevirtual 124, 3) := by decide +kernel
theorem dX11_depth_35 : decode cX11_depth 35 = .ok (.ireturn, 1) := by decide +kernel
theorem dX11_blockRule_0 : decode cX11_blockRule 0 = .ok (.aload_n 0, 1) := by decide +kernel
theorem dX11_blockRule_1 : decode cX11_blockRule 1 = .ok (.invokevirtual 138, 3) := by decide +kernel
theorem dX11_blockRule_4 : decode cX11_blockRule 4 = .ok (.aload_n 0, 1) := by decide +kernel
theorem dX11_blockRule_5 : decode cX11_blockRule 5 = .ok (.iload_n 1, 1) := by decide +kernel
theorem dX11_blockRule_6 : decode cX11_blockRule 6 = .ok (.iload_n 2, 1) := by decide +kernel
theorem dX11_blockRule_7 : decode cX11_blockRule 7 = .ok (.invokevirtual 267, 3) := by decide +kernel
theorem dX11_blockRule_10 : decode cX11_blockRule 10 = .ok (.istore_n 3, 1) := by decide +kernel
theorem dX11_blockRule_11 : decode cX11_blockRule 11 = .ok (.iload_n 3, 1) := by decide +kernel
theorem dX11_blockRule_12 : decode cX11_blockRule 12 = .ok (.iconst (-1), 1) := by decide +kernel
theorem dX11_blockRule_13 : decode cX11_blockRule 13 = .ok (.if_icmp .ne 7, 3) := by decide +kernel
theorem dX11_blockRule_16 : decode cX11_blockRule 16 = .ok (.iconst (-1), 1) := by decide +kernel
theorem dX11_blockRule_17 : decode cX11_blockRule 17 = .ok (.goto 14, 3) := by decide +kernel
theorem dX11_blockRule_20 : decode cX11_blockRule 20 = .ok (.aload_n 0, 1) := by decide +kernel
theorem dX11_blockRule_21 : decode cX11_blockRule 21 = .ok (.getfield 60, 3) := by decide +kernel
theorem dX11_blockRule_24 : decode cX11_blockRule 24 = .ok (.getfield 270, 3) := by decide +kernel
theorem dX11_blockRule_27 : decode cX11_blockRule 27 = .ok (.iload_n 3, 1) := by decide +kernel
theorem dX11_blockRule_28 : decode cX11_blockRule 28 = .ok (.invokevirtual 124, 3) := by decide +kernel
theorem dX11_blockRule_31 : decode cX11_blockRule 31 = .ok (.ireturn, 1) := by decide +kernel
theorem dX11_blockOpening_0 : decode cX11_blockOpening 0 = .ok (.aload_n 0, 1) := by decide +kernel
theorem dX11_blockOpening_1 : decode cX11_blockOpening 1 = .ok (.invokevirtual 138, 3) := by decide +kernel
theorem dX11_blockOpening_4 : decode cX11_blockOpening 4 = .ok (.aload_n 0, 1) := by decide +kernel
theorem dX11_blockOpening_5 : decode cX11_blockOpening 5 = .ok (.iload_n 1, 1) := by decide +kernel
theorem dX11_blockOpening_6 : decode cX11_blockOpening 6 = .ok (.iload_n 2, 1) := by decide +kernel
theorem dX11_blockOpening_7 : decode cX11_blockOpening 7 = .ok (.invokevirtual 267, 3) := by decide +kernel
theorem dX11_blockOpening_10 : decode cX11_blockOpening 10 = .ok (.istore_n 3, 1) := by decide +kernel
theorem dX11_blockOpening_11 : decode cX11_blockOpening 11 = .ok (.iload_n 3, 1) := by decide +kernel
theorem dX11_blockOpening_12 : decode cX11_blockOpening 12 = .ok (.iconst (-1), 1) := by decide +kernel
theorem dX11_blockOpening_13 : decode cX11_blockOpening 13 = .ok (.if_icmp .ne 5, 3) := by decide +kernel
theorem dX11_blockOpening_16 : decode cX11_blockOpening 16 = .ok (.iconst (-1), 1) := by decide +kernel
theorem dX11_blockOpening_17 : decode cX11_blockOpening 17 = .ok (.ireturn, 1) := by decide +kernel
theorem dX11_blockOpening_18 : decode cX11_blockOpening 18 = .ok (.aload_n 0, 1) := by decide +kernel
theorem dX11_blockOpening_19 : decode cX11_blockOpening 19 = .ok (.getfield 53, 3) := by decide +kernel
theorem dX11_blockOpening_22 : decode cX11_blockOpening 22 = .ok (.getfield 273, 3) := by decide +kernel
theorem dX11_blockOpening_25 : decode cX11_blockOpening 25 = .ok (.iload_n 3, 1) := by decide +kernel
theorem dX11_blockOpening_26 : decode cX11_blockOpening 26 = .ok (.invokevirtual 124, 3) := by decide +kernel
theorem dX11_blockOpening_29 : decode cX11_blockOpening 29 = .ok (.istore 4, 2) := by decide +kernel
theorem dX11_blockOpening_31 : decode cX11_blockOpening 31 = .ok (.bipush 100, 2) := by decide +kernel
theorem dX11_blockOpening_33 : decode cX11_blockOpening 33 = .ok (.iload 4, 2) := by decide +kernel
theorem dX11_blockOpening_35 : decode cX11_blockOpening 35 = .ok (.imul, 1) := by decide +kernel
theorem dX11_blockOpening_36 : decode cX11_blockOpening 36 = .ok (.aload_n 0, 1) := by decide +kernel
theorem dX11_blockOpening_37 : decode cX11_blockOpening 37 = .ok (.getfield 12, 3) := by decide +kernel
theorem dX11_blockOpening_40 : decode cX11_blockOpening 40 = .ok (.getfield 96, 3) := by decide +kernel
theorem dX11_blockOpening_43 : decode cX11_blockOpening 43 = .ok (.getfield 121, 3) := by decide +kernel
theorem dX11_blockOpening_46 : decode cX11_blockOpening 46 = .ok (.iload 4, 2) := by decide +kernel
theorem dX11_blockOpening_48 : decode cX11_blockOpening 48 = .ok (.invokevirtual 124, 3) := by decide +kernel
theorem dX11_blockOpening_51 : decode cX11_blockOpening 51 = .ok (.iadd, 1) := by decide +kernel
theorem dX11_blockOpening_52 : decode cX11_blockOpening 52 = .ok (.aload_n 0, 1) := by decide +kernel
theorem dX11_blockOpening_53 : decode cX11_blockOpening 53 = .ok (.getfield 53, 3) := by decide +kernel
theorem dX11_blockOpening_56 : decode cX11_blockOpening 56 = .ok (.getfield 248, 3) := by decide +kernel
theorem dX11_blockOpening_59 : decode cX11_blockOpening 59 = .ok (.iload_n 3, 1) := by decide +kernel
theorem dX11_blockOpening_60 : decode cX11_blockOpening 60 = .ok (.invokevirtual 124, 3) := by decide +kernel
theorem dX11_blockOpening_63 : decode cX11_blockOpening 63 = .ok (.iadd, 1) := by decide +kernel
theorem dX11_blockOpening_64 : decode cX11_blockOpening 64 = .ok (.ireturn, 1) := by decide +kernel
theorem dX11_contentColumn_0 : decode cX11_contentColumn 0 = .ok (.aload_n 0, 1) := by decide +kernel
theorem dX11_contentColumn_1 : decode cX11_contentColumn 1 = .ok (.invokevirtual 138, 3) := by decide +kernel
theorem dX11_contentColumn_4 : decode cX11_contentColumn 4 = .ok (.aload_n 0, 1) := by decide +kernel
theorem dX11_contentColumn_5 : decode cX11_contentColumn 5 = .ok (.iload_n 1, 1) := by decide +kernel
theorem dX11_contentColumn_6 : decode cX11_contentColumn 6 = .ok (.iload_n 2, 1) := by decide +kernel
theorem dX11_contentColumn_7 : decode cX11_contentColumn 7 = .ok (.invokevirtual 267, 3) := by decide +kernel
theorem dX11_contentColumn_10 : decode cX11_contentColumn 10 = .ok (.istore_n 3, 1) := by decide +kernel
theorem dX11_contentColumn_11 : decode cX11_contentColumn 11 = .ok (.iload_n 3, 1) := by decide +kernel
theorem dX11_contentColumn_12 : decode cX11_contentColumn 12 = .ok (.iconst (-1), 1) := by decide +kernel
theorem dX11_contentColumn_13 : decode cX11_contentColumn 13 = .ok (.if_icmp .ne 5, 3) := by decide +kernel
theorem dX11_contentColumn_16 : decode cX11_contentColumn 16 = .ok (.iconst (-1), 1) := by decide +kernel
theorem dX11_contentColumn_17 : decode cX11_contentColumn 17 = .ok (.ireturn, 1) := by decide +kernel
theorem dX11_contentColumn_18 : decode cX11_contentColumn 18 = .ok (.aload_n 0, 1) := by decide +kernel
theorem dX11_contentColumn_19 : decode cX11_contentColumn 19 = .ok (.getfield 12, 3) := by decide +kernel
theorem dX11_contentColumn_22 : decode cX11_contentColumn 22 = .ok (.getfield 96, 3) := by decide +kernel
theorem dX11_contentColumn_25 : decode cX11_contentColumn 25 = .ok (.getfield 121, 3) := by decide +kernel
theorem dX11_contentColumn_28 : decode cX11_contentColumn 28 = .ok (.aload_n 0, 1) := by decide +kernel
theorem dX11_contentColumn_29 : decode cX11_contentColumn 29 = .ok (.getfield 53, 3) := by decide +kernel
theorem dX11_contentColumn_32 : decode cX11_contentColumn 32 = .ok (.getfield 273, 3) := by decide +kernel
theorem dX11_contentColumn_35 : decode cX11_contentColumn 35 = .ok (.iload_n 3, 1) := by decide +kernel
theorem dX11_contentColumn_36 : decode cX11_contentColumn 36 = .ok (.invokevirtual 124, 3) := by decide +kernel
theorem dX11_contentColumn_39 : decode cX11_contentColumn 39 = .ok (.invokevirtual 124, 3) := by decide +kernel
theorem dX11_contentColumn_42 : decode cX11_contentColumn 42 = .ok (.istore 4, 2) := by decide +kernel
theorem dX11_contentColumn_44 : decode cX11_contentColumn 44 = .ok (.iload 4, 2) := by decide +kernel
theorem dX11_contentColumn_46 : decode cX11_contentColumn 46 = .ok (.aload_n 0, 1) := by decide +kernel
theorem dX11_contentColumn_47 : decode cX11_contentColumn 47 = .ok (.getfield 60, 3) := by decide +kernel
theorem dX11_contentColumn_50 : decode cX11_contentColumn 50 = .ok (.getfield 276, 3) := by decide +kernel
theorem dX11_contentColumn_53 : decode cX11_contentColumn 53 = .ok (.iload_n 3, 1) := by decide +kernel
theorem dX11_contentColumn_54 : decode cX11_contentColumn 54 = .ok (.invokevirtual 124, 3) := by decide +kernel
theorem dX11_contentColumn_57 : decode cX11_contentColumn 57 = .ok (.aload_n 0, 1) := by decide +kernel
theorem dX11_contentColumn_58 : decode cX11_contentColumn 58 = .ok (.getfield 60, 3) := by decide +kernel
theorem dX11_contentColumn_61 : decode cX11_contentColumn 61 = .ok (.getfield 279, 3) := by decide +kernel
theorem dX11_contentColumn_64 : decode cX11_contentColumn 64 = .ok (.iload_n 3, 1) := by decide +kernel
theorem dX11_contentColumn_65 : decode cX11_contentColumn 65 = .ok (.invokevirtual 124, 3) := by decide +kernel
theorem dX11_contentColumn_68 : decode cX11_contentColumn 68 = .ok (.aload_n 0, 1) := by decide +kernel
theorem dX11_contentColumn_69 : decode cX11_contentColumn 69 = .ok (.getfield 12, 3) := by decide +kernel
theorem dX11_contentColumn_72 : decode cX11_contentColumn 72 = .ok (.getfield 141, 3) := by decide +kernel
theorem dX11_contentColumn_75 : decode cX11_contentColumn 75 = .ok (.invokestatic 282, 3) := by decide +kernel
theorem dX11_contentColumn_78 : decode cX11_contentColumn 78 = .ok (.ireturn, 1) := by decide +kernel
theorem dX11_strays_0 : decode cX11_strays 0 = .ok (.aload_n 0, 1) := by decide +kernel
theorem dX11_strays_1 : decode cX11_strays 1 = .ok (.invokevirtual 138, 3) := by decide +kernel
theorem dX11_strays_4 : decode cX11_strays 4 = .ok (.aload_n 0, 1) := by decide +kernel
theorem dX11_strays_5 : decode cX11_strays 5 = .ok (.getfield 60, 3) := by decide +kernel
theorem dX11_strays_8 : decode cX11_strays 8 = .ok (.getfield 285, 3) := by decide +kernel
theorem dX11_strays_11 : decode cX11_strays 11 = .ok (.ireturn, 1) := by decide +kernel
theorem dX11_lost_0 : decode cX11_lost 0 = .ok (.aload_n 0, 1) := by decide +kernel
theorem dX11_lost_1 : decode cX11_lost 1 = .ok (.invokevirtual 138, 3) := by decide +kernel
theorem dX11_lost_4 : decode cX11_lost 4 = .ok (.aload_n 0, 1) := by decide +kernel
theorem dX11_lost_5 : decode cX11_lost 5 = .ok (.getfield 60, 3) := by decide +kernel
theorem dX11_lost_8 : decode cX11_lost 8 = .ok (.getfield 288, 3) := by decide +kernel
theorem dX11_lost_11 : decode cX11_lost 11 = .ok (.ireturn, 1) := by decide +kernel
theorem dX11_vocabulary_0 : decode cX11_vocabulary 0 = .ok (.aload_n 0, 1) := by decide +kernel
theorem dX11_vocabulary_1 : decode cX11_vocabulary 1 = .ok (.invokevirtual 138, 3) := by decide +kernel
theorem dX11_vocabulary_4 : decode cX11_vocabulary 4 = .ok (.aload_n 0, 1) := by decide +kernel
theorem dX11_vocabulary_5 : decode cX11_vocabulary 5 = .ok (.getfield 74, 3) := by decide +kernel
theorem dX11_vocabulary_8 : decode cX11_vocabulary 8 = .ok (.aload_n 0, 1) := by decide +kernel
theorem dX11_vocabulary_9 : decode cX11_vocabulary 9 = .ok (.getfield 12, 3) := by decide +kernel
theorem dX11_vocabulary_12 : decode cX11_vocabulary 12 = .ok (.getfield 96, 3) := by decide +kernel
theorem dX11_vocabulary_15 : decode cX11_vocabulary 15 = .ok (.aload_n 0, 1) := by decide +kernel
theorem dX11_vocabulary_16 : decode cX11_vocabulary 16 = .ok (.getfield 53, 3) := by decide +kernel
theorem dX11_vocabulary_19 : decode cX11_vocabulary 19 = .ok (.invokevirtual 291, 3) := by decide +kernel
theorem dX11_vocabulary_22 : decode cX11_vocabulary 22 = .ok (.aload_n 0, 1) := by decide +kernel
theorem dX11_vocabulary_23 : decode cX11_vocabulary 23 = .ok (.getfield 74, 3) := by decide +kernel
theorem dX11_vocabulary_26 : decode cX11_vocabulary 26 = .ok (.getfield 294, 3) := by decide +kernel
theorem dX11_vocabulary_29 : decode cX11_vocabulary 29 = .ok (.ireturn, 1) := by decide +kernel
theorem dX11_commonestCount_0 : decode cX11_commonestCount 0 = .ok (.aload_n 0, 1) := by decide +kernel
theorem dX11_commonestCount_1 : decode cX11_commonestCount 1 = .ok (.invokevirtual 138, 3) := by decide +kernel
theorem dX11_commonestCount_4 : decode cX11_commonestCount 4 = .ok (.aload_n 0, 1) := by decide +kernel
theorem dX11_commonestCount_5 : decode cX11_commonestCount 5 = .ok (.getfield 74, 3) := by decide +kernel
theorem dX11_commonestCount_8 : decode cX11_commonestCount 8 = .ok (.aload_n 0, 1) := by decide +kernel
theorem dX11_commonestCount_9 : decode cX11_commonestCount 9 = .ok (.getfield 12, 3) := by decide +kernel
theorem dX11_commonestCount_12 : decode cX11_commonestCount 12 = .ok (.getfield 96, 3) := by decide +kernel
theorem dX11_commonestCount_15 : decode cX11_commonestCount 15 = .ok (.aload_n 0, 1) := by decide +kernel
theorem dX11_commonestCount_16 : decode cX11_commonestCount 16 = .ok (.getfield 53, 3) := by decide +kernel
theorem dX11_commonestCount_19 : decode cX11_commonestCount 19 = .ok (.invokevirtual 291, 3) := by decide +kernel
theorem dX11_commonestCount_22 : decode cX11_commonestCount 22 = .ok (.aload_n 0, 1) := by decide +kernel
theorem dX11_commonestCount_23 : decode cX11_commonestCount 23 = .ok (.getfield 74, 3) := by decide +kernel
theorem dX11_commonestCount_26 : decode cX11_commonestCount 26 = .ok (.invokevirtual 296, 3) := by decide +kernel
theorem dX11_commonestCount_29 : decode cX11_commonestCount 29 = .ok (.istore_n 1, 1) := by decide +kernel
theorem dX11_commonestCount_30 : decode cX11_commonestCount 30 = .ok (.iload_n 1, 1) := by decide +kernel
theorem dX11_commonestCount_31 : decode cX11_commonestCount 31 = .ok (.iconst (-1), 1) := by decide +kernel
theorem dX11_commonestCount_32 : decode cX11_commonestCount 32 = .ok (.if_icmp .ne 8, 3) := by decide +kernel
theorem dX11_commonestCount_35 : decode cX11_commonestCount 35 = .ok (.bipush (-9), 2) := by decide +kernel
theorem dX11_commonestCount_37 : decode cX11_commonestCount 37 = .ok (.goto 14, 3) := by decide +kernel
theorem dX11_commonestCount_40 : decode cX11_commonestCount 40 = .ok (.aload_n 0, 1) := by decide +kernel
theorem dX11_commonestCount_41 : decode cX11_commonestCount 41 = .ok (.getfield 74, 3) := by decide +kernel
theorem dX11_commonestCount_44 : decode cX11_commonestCount 44 = .ok (.getfield 299, 3) := by decide +kernel
theorem dX11_commonestCount_47 : decode cX11_commonestCount 47 = .ok (.iload_n 1, 1) := by decide +kernel
theorem dX11_commonestCount_48 : decode cX11_commonestCount 48 = .ok (.invokevirtual 124, 3) := by decide +kernel
theorem dX11_commonestCount_51 : decode cX11_commonestCount 51 = .ok (.ireturn, 1) := by decide +kernel
theorem dX11_commonestByte_0 : decode cX11_commonestByte 0 = .ok (.iload_n 1, 1) := by decide +kernel
theorem dX11_commonestByte_1 : decode cX11_commonestByte 1 = .ok (.ifCond .ge 5, 3) := by decide +kernel
theorem dX11_commonestByte_4 : decode cX11_commonestByte 4 = .ok (.iconst (-1), 1) := by decide +kernel
theorem dX11_commonestByte_5 : decode cX11_commonestByte 5 = .ok (.ireturn, 1) := by decide +kernel
theorem dX11_commonestByte_6 : decode cX11_commonestByte 6 = .ok (.aload_n 0, 1) := by decide +kernel
theorem dX11_commonestByte_7 : decode cX11_commonestByte 7 = .ok (.invokevirtual 138, 3) := by decide +kernel
theorem dX11_commonestByte_10 : decode cX11_commonestByte 10 = .ok (.aload_n 0, 1) := by decide +kernel
theorem dX11_commonestByte_11 : decode cX11_commonestByte 11 = .ok (.getfield 74, 3) := by decide +kernel
theorem dX11_commonestByte_14 : decode cX11_commonestByte 14 = .ok (.aload_n 0, 1) := by decide +kernel
theorem dX11_commonestByte_15 : decode cX11_commonestByte 15 = .ok (.getfield 12, 3) := by decide +kernel
theorem dX11_commonestByte_18 : decode cX11_commonestByte 18 = .ok (.getfield 96, 3) := by decide +kernel
theorem dX11_commonestByte_21 : decode cX11_commonestByte 21 = .ok (.aload_n 0, 1) := by decide +kernel
theorem dX11_commonestByte_22 : decode cX11_commonestByte 22 = .ok (.getfield 53, 3) := by decide +kernel
theorem dX11_commonestByte_25 : decode cX11_commonestByte 25 = .ok (.invokevirtual 291, 3) := by decide +kernel
theorem dX11_commonestByte_28 : decode cX11_commonestByte 28 = .ok (.aload_n 0, 1) := by decide +kernel
theorem dX11_commonestByte_29 : decode cX11_commonestByte 29 = .ok (.getfield 74, 3) := by decide +kernel
theorem dX11_commonestByte_32 : decode cX11_commonestByte 32 = .ok (.invokevirtual 296, 3) := by decide +kernel
theorem dX11_commonestByte_35 : decode cX11_commonestByte 35 = .ok (.istore_n 2, 1) := by decide +kernel
theorem dX11_commonestByte_36 : decode cX11_commonestByte 36 = .ok (.iload_n 2, 1) := by decide +kernel
theorem dX11_commonestByte_37 : decode cX11_commonestByte 37 = .ok (.iconst (-1), 1) := by decide +kernel
theorem dX11_commonestByte_38 : decode cX11_commonestByte 38 = .ok (.if_icmp .ne 6, 3) := by decide +kernel
theorem dX11_commonestByte_41 : decode cX11_commonestByte 41 = .ok (.bipush (-9), 2) := by decide +kernel
theorem dX11_commonestByte_43 : decode cX11_commonestByte 43 = .ok (.ireturn, 1) := by decide +kernel
theorem dX11_commonestByte_44 : decode cX11_commonestByte 44 = .ok (.aload_n 0, 1) := by decide +kernel
theorem dX11_commonestByte_45 : decode cX11_commonestByte 45 = .ok (.getfield 74, 3) := by decide +kernel
theorem dX11_commonestByte_48 : decode cX11_commonestByte 48 = .ok (.getfield 302, 3) := by decide +kernel
theorem dX11_commonestByte_51 : decode cX11_commonestByte 51 = .ok (.iload_n 2, 1) := by decide +kernel
theorem dX11_commonestByte_52 : decode cX11_commonestByte 52 = .ok (.invokevirtual 124, 3) := by decide +kernel
theorem dX11_commonestByte_55 : decode cX11_commonestByte 55 = .ok (.istore_n 3, 1) := by decide +kernel
theorem dX11_commonestByte_56 : decode cX11_commonestByte 56 = .ok (.iload_n 1, 1) := by decide +kernel
theorem dX11_commonestByte_57 : decode cX11_commonestByte 57 = .ok (.aload_n 0, 1) := by decide +kernel
theorem dX11_commonestByte_58 : decode cX11_commonestByte 58 = .ok (.getfield 53, 3) := by decide +kernel
theorem dX11_commonestByte_61 : decode cX11_commonestByte 61 = .ok (.getfield 251, 3) := by decide +kernel
theorem dX11_commonestByte_64 : decode cX11_commonestByte 64 = .ok (.iload_n 3, 1) := by decide +kernel
theorem dX11_commonestByte_65 : decode cX11_commonestByte 65 = .ok (.invokevirtual 124, 3) := by decide +kernel
theorem dX11_commonestByte_68 : decode cX11_commonestByte 68 = .ok (.if_icmp .lt 6, 3) := by decide +kernel
theorem dX11_commonestByte_71 : decode cX11_commonestByte 71 = .ok (.bipush (-9), 2) := by decide +kernel
theorem dX11_commonestByte_73 : decode cX11_commonestByte 73 = .ok (.ireturn, 1) := by decide +kernel
theorem dX11_commonestByte_74 : decode cX11_commonestByte 74 = .ok (.aload_n 0, 1) := by decide +kernel
theorem dX11_commonestByte_75 : decode cX11_commonestByte 75 = .ok (.getfield 12, 3) := by decide +kernel
theorem dX11_commonestByte_78 : decode cX11_commonestByte 78 = .ok (.getfield 96, 3) := by decide +kernel
theorem dX11_commonestByte_81 : decode cX11_commonestByte 81 = .ok (.aload_n 0, 1) := by decide +kernel
theorem dX11_commonestByte_82 : decode cX11_commonestByte 82 = .ok (.getfield 53, 3) := by decide +kernel
theorem dX11_commonestByte_85 : decode cX11_commonestByte 85 = .ok (.getfield 273, 3) := by decide +kernel
theorem dX11_commonestByte_88 : decode cX11_commonestByte 88 = .ok (.iload_n 3, 1) := by decide +kernel
theorem dX11_commonestByte_89 : decode cX11_commonestByte 89 = .ok (.invokevirtual 124, 3) := by decide +kernel
theorem dX11_commonestByte_92 : decode cX11_commonestByte 92 = .ok (.aload_n 0, 1) := by decide +kernel
theorem dX11_commonestByte_93 : decode cX11_commonestByte 93 = .ok (.getfield 53, 3) := by decide +kernel
theorem dX11_commonestByte_96 : decode cX11_commonestByte 96 = .ok (.getfield 248, 3) := by decide +kernel
theorem dX11_commonestByte_99 : decode cX11_commonestByte 99 = .ok (.iload_n 3, 1) := by decide +kernel
theorem dX11_commonestByte_100 : decode cX11_commonestByte 100 = .ok (.invokevirtual 124, 3) := by decide +kernel
theorem dX11_commonestByte_103 : decode cX11_commonestByte 103 = .ok (.iload_n 1, 1) := by decide +kernel
theorem dX11_commonestByte_104 : decode cX11_commonestByte 104 = .ok (.iadd, 1) := by decide +kernel
theorem dX11_commonestByte_105 : decode cX11_commonestByte 105 = .ok (.invokevirtual 178, 3) := by decide +kernel
theorem dX11_commonestByte_108 : decode cX11_commonestByte 108 = .ok (.ireturn, 1) := by decide +kernel
theorem dX11_undo_0 : decode cX11_undo 0 = .ok (.aload_n 0, 1) := by decide +kernel
theorem dX11_undo_1 : decode cX11_undo 1 = .ok (.getfield 33, 3) := by decide +kernel
theorem dX11_undo_4 : decode cX11_undo 4 = .ok (.getfield 305, 3) := by decide +kernel
theorem dX11_undo_7 : decode cX11_undo 7 = .ok (.ifCond .ne 6, 3) := by decide +kernel
theorem dX11_undo_10 : decode cX11_undo 10 = .ok (.bipush (-2), 2) := by decide +kernel
theorem dX11_undo_12 : decode cX11_undo 12 = .ok (.ireturn, 1) := by decide +kernel
theorem dX11_undo_13 : decode cX11_undo 13 = .ok (.aload_n 0, 1) := by decide +kernel
theorem dX11_undo_14 : decode cX11_undo 14 = .ok (.getfield 33, 3) := by decide +kernel
theorem dX11_undo_17 : decode cX11_undo 17 = .ok (.aload_n 0, 1) := by decide +kernel
theorem dX11_undo_18 : decode cX11_undo 18 = .ok (.getfield 12, 3) := by decide +kernel
theorem dX11_undo_21 : decode cX11_undo 21 = .ok (.invokevirtual 306, 3) := by decide +kernel
theorem dX11_undo_24 : decode cX11_undo 24 = .ok (.aload_n 0, 1) := by decide +kernel
theorem dX11_undo_25 : decode cX11_undo 25 = .ok (.iconst 0, 1) := by decide +kernel
theorem dX11_undo_26 : decode cX11_undo 26 = .ok (.putfield 81, 3) := by decide +kernel
theorem dX11_undo_29 : decode cX11_undo 29 = .ok (.aload_n 0, 1) := by decide +kernel
theorem dX11_undo_30 : decode cX11_undo 30 = .ok (.getfield 33, 3) := by decide +kernel
theorem dX11_undo_33 : decode cX11_undo 33 = .ok (.getfield 305, 3) := by decide +kernel
theorem dX11_undo_36 : decode cX11_undo 36 = .ok (.ireturn, 1) := by decide +kernel
theorem dX11_keep_0 : decode cX11_keep 0 = .ok (.aload_n 0, 1) := by decide +kernel
theorem dX11_keep_1 : decode cX11_keep 1 = .ok (.iload_n 1, 1) := by decide +kernel
theorem dX11_keep_2 : decode cX11_keep 2 = .ok (.invokevirtual 310, 3) := by decide +kernel
theorem dX11_keep_5 : decode cX11_keep 5 = .ok (.astore_n 2, 1) := by decide +kernel
theorem dX11_keep_6 : decode cX11_keep 6 = .ok (.aload_n 2, 1) := by decide +kernel
theorem dX11_keep_7 : decode cX11_keep 7 = .ok (.ifnonnull 5, 3) := by decide +kernel
theorem dX11_keep_10 : decode cX11_keep 10 = .ok (.iconst (-1), 1) := by decide +kernel
theorem dX11_keep_11 : decode cX11_keep 11 = .ok (.ireturn, 1) := by decide +kernel
theorem dX11_keep_12 : decode cX11_keep 12 = .ok (.aload_n 0, 1) := by decide +kernel
theorem dX11_keep_13 : decode cX11_keep 13 = .ok (.getfield 46, 3) := by decide +kernel
theorem dX11_keep_16 : decode cX11_keep 16 = .ok (.iload_n 1, 1) := by decide +kernel
theorem dX11_keep_17 : decode cX11_keep 17 = .ok (.invokevirtual 124, 3) := by decide +kernel
theorem dX11_keep_20 : decode cX11_keep 20 = .ok (.istore_n 3, 1) := by decide +kernel
theorem dX11_keep_21 : decode cX11_keep 21 = .ok (.aload_n 2, 1) := by decide +kernel
theorem dX11_keep_22 : decode cX11_keep 22 = .ok (.aload_n 0, 1) := by decide +kernel
theorem dX11_keep_23 : decode cX11_keep 23 = .ok (.getfield 12, 3) := by decide +kernel
theorem dX11_keep_26 : decode cX11_keep 26 = .ok (.invokevirtual 314, 3) := by decide +kernel
theorem dX11_keep_29 : decode cX11_keep 29 = .ok (.aload_n 0, 1) := by decide +kernel
theorem dX11_keep_30 : decode cX11_keep 30 = .ok (.getfield 46, 3) := by decide +kernel
theorem dX11_keep_33 : decode cX11_keep 33 = .ok (.iload_n 1, 1) := by decide +kernel
theorem dX11_keep_34 : decode cX11_keep 34 = .ok (.iconst 1, 1) := by decide +kernel
theorem dX11_keep_35 : decode cX11_keep 35 = .ok (.invokevirtual 151, 3) := by decide +kernel
theorem dX11_keep_38 : decode cX11_keep 38 = .ok (.iload_n 3, 1) := by decide +kernel
theorem dX11_keep_39 : decode cX11_keep 39 = .ok (.ireturn, 1) := by decide +kernel
theorem dX11_back_0 : decode cX11_back 0 = .ok (.aload_n 0, 1) := by decide +kernel
theorem dX11_back_1 : decode cX11_back 1 = .ok (.iload_n 1, 1) := by decide +kernel
theorem dX11_back_2 : decode cX11_back 2 = .ok (.invokevirtual 310, 3) := by decide +kernel
theorem dX11_back_5 : decode cX11_back 5 = .ok (.astore_n 2, 1) := by decide +kernel
theorem dX11_back_6 : decode cX11_back 6 = .ok (.aload_n 2, 1) := by decide +kernel
theorem dX11_back_7 : decode cX11_back 7 = .ok (.ifnull 14, 3) := by decide +kernel
theorem dX11_back_10 : decode cX11_back 10 = .ok (.aload_n 0, 1) := by decide +kernel
theorem dX11_back_11 : decode cX11_back 11 = .ok (.getfield 46, 3) := by decide +kernel
theorem dX11_back_14 : decode cX11_back 14 = .ok (.iload_n 1, 1) := by decide +kernel
theorem dX11_back_15 : decode cX11_back 15 = .ok (.invokevirtual 124, 3) := by decide +kernel
theorem dX11_back_18 : decode cX11_back 18 = .ok (.ifCond .ne 5, 3) := by decide +kernel
theorem dX11_back_21 : decode cX11_back 21 = .ok (.iconst (-1), 1) := by decide +kernel
theorem dX11_back_22 : decode cX11_back 22 = .ok (.ireturn, 1) := by decide +kernel
theorem dX11_back_23 : decode cX11_back 23 = .ok (.aload_n 0, 1) := by decide +kernel
theorem dX11_back_24 : decode cX11_back 24 = .ok (.getfield 12, 3) := by decide +kernel
theorem dX11_back_27 : decode cX11_back 27 = .ok (.aload_n 2, 1) := by decide +kernel
theorem dX11_back_28 : decode cX11_back 28 = .ok (.invokevirtual 314, 3) := by decide +kernel
theorem dX11_back_31 : decode cX11_back 31 = .ok (.aload_n 0, 1) := by decide +kernel
theorem dX11_back_32 : decode cX11_back 32 = .ok (.getfield 33, 3) := by decide +kernel
theorem dX11_back_35 : decode cX11_back 35 = .ok (.iconst 0, 1) := by decide +kernel
theorem dX11_back_36 : decode cX11_back 36 = .ok (.putfield 305, 3) := by decide +kernel
theorem dX11_back_39 : decode cX11_back 39 = .ok (.aload_n 0, 1) := by decide +kernel
theorem dX11_back_40 : decode cX11_back 40 = .ok (.iconst 0, 1) := by decide +kernel
theorem dX11_back_41 : decode cX11_back 41 = .ok (.putfield 81, 3) := by decide +kernel
theorem dX11_back_44 : decode cX11_back 44 = .ok (.aload_n 0, 1) := by decide +kernel
theorem dX11_back_45 : decode cX11_back 45 = .ok (.getfield 12, 3) := by decide +kernel
theorem dX11_back_48 : decode cX11_back 48 = .ok (.getfield 96, 3) := by decide +kernel
theorem dX11_back_51 : decode cX11_back 51 = .ok (.getfield 100, 3) := by decide +kernel
theorem dX11_back_54 : decode cX11_back 54 = .ok (.ireturn, 1) := by decide +kernel
theorem dX11_draw_0 : decode cX11_draw 0 = .ok (.iload_n 2, 1) := by decide +kernel
theorem dX11_draw_1 : decode cX11_draw 1 = .ok (.iconst 1, 1) := by decide +kernel
theorem dX11_draw_2 : decode cX11_draw 2 = .ok (.bipush 12, 2) := by decide +kernel
theorem dX11_draw_4 : decode cX11_draw 4 = .ok (.invokestatic 85, 3) := by decide +kernel
theorem dX11_draw_7 : decode cX11_draw 7 = .ok (.ifCond .ne 5, 3) := by decide +kernel
theorem dX11_draw_10 : decode cX11_draw 10 = .ok (.iconst (-1), 1) := by decide +kernel
theorem dX11_draw_11 : decode cX11_draw 11 = .ok (.ireturn, 1) := by decide +kernel
theorem dX11_draw_12 : decode cX11_draw 12 = .ok (.aload_n 0, 1) := by decide +kernel
theorem dX11_draw_13 : decode cX11_draw 13 = .ok (.invokevirtual 107, 3) := by decide +kernel
theorem dX11_draw_16 : decode cX11_draw 16 = .ok (.iload_n 2, 1) := by decide +kernel
theorem dX11_draw_17 : decode cX11_draw 17 = .ok (.bipush 20, 2) := by decide +kernel
theorem dX11_draw_19 : decode cX11_draw 19 = .ok (.aload_n 0, 1) := by decide +kernel
theorem dX11_draw_20 : decode cX11_draw 20 = .ok (.getfield 12, 3) := by decide +kernel
theorem dX11_draw_23 : decode cX11_draw 23 = .ok (.getfield 96, 3) := by decide +kernel
theorem dX11_draw_26 : decode cX11_draw 26 = .ok (.getfield 100, 3) := by decide +kernel
theorem dX11_draw_29 : decode cX11_draw 29 = .ok (.isub, 1) := by decide +kernel
theorem dX11_draw_30 : decode cX11_draw 30 = .ok (.invokestatic 317, 3) := by decide +kernel
theorem dX11_draw_33 : decode cX11_draw 33 = .ok (.istore_n 3, 1) := by decide +kernel
theorem dX11_draw_34 : decode cX11_draw 34 = .ok (.iload_n 1, 1) := by decide +kernel
theorem dX11_draw_35 : decode cX11_draw 35 = .ok (.istore 4, 2) := by decide +kernel
theorem dX11_draw_37 : decode cX11_draw 37 = .ok (.iconst 0, 1) := by decide +kernel
theorem dX11_draw_38 : decode cX11_draw 38 = .ok (.istore 5, 2) := by decide +kernel
theorem dX11_draw_40 : decode cX11_draw 40 = .ok (.iload 5, 2) := by decide +kernel
theorem dX11_draw_42 : decode cX11_draw 42 = .ok (.iload_n 3, 1) := by decide +kernel
theorem dX11_draw_43 : decode cX11_draw 43 = .ok (.if_icmp .ge 17, 3) := by decide +kernel
theorem dX11_draw_46 : decode cX11_draw 46 = .ok (.aload_n 0, 1) := by decide +kernel
theorem dX11_draw_47 : decode cX11_draw 47 = .ok (.iload 4, 2) := by decide +kernel
theorem dX11_draw_49 : decode cX11_draw 49 = .ok (.invokevirtual 322, 3) := by decide +kernel
theorem dX11_draw_52 : decode cX11_draw 52 = .ok (.istore 4, 2) := by decide +kernel
theorem dX11_draw_54 : decode cX11_draw 54 = .ok (.iinc 5 1, 3) := by decide +kernel
theorem dX11_draw_57 : decode cX11_draw 57 = .ok (.goto (-17), 3) := by decide +kernel
theorem dX11_draw_60 : decode cX11_draw 60 = .ok (.iload_n 3, 1) := by decide +kernel
theorem dX11_draw_61 : decode cX11_draw 61 = .ok (.ireturn, 1) := by decide +kernel
theorem dX11_digest_0 : decode cX11_digest 0 = .ok (.aload_n 0, 1) := by decide +kernel
theorem dX11_digest_1 : decode cX11_digest 1 = .ok (.invokevirtual 138, 3) := by decide +kernel
theorem dX11_digest_4 : decode cX11_digest 4 = .ok (.ldc2_w 325, 3) := by decide +kernel
theorem dX11_digest_7 : decode cX11_digest 7 = .ok (.aload_n 0, 1) := by decide +kernel
theorem dX11_digest_8 : decode cX11_digest 8 = .ok (.getfield 12, 3) := by decide +kernel
theorem dX11_digest_11 : decode cX11_digest 11 = .ok (.getfield 96, 3) := by decide +kernel
theorem dX11_digest_14 : decode cX11_digest 14 = .ok (.getfield 100, 3) := by decide +kernel
theorem dX11_digest_17 : decode cX11_digest 17 = .ok (.invokestatic 327, 3) := by decide +kernel
theorem dX11_digest_20 : decode cX11_digest 20 = .ok (.lstore_n 1, 1) := by decide +kernel
theorem dX11_digest_21 : decode cX11_digest 21 = .ok (.iconst 0, 1) := by decide +kernel
theorem dX11_digest_22 : decode cX11_digest 22 = .ok (.istore_n 3, 1) := by decide +kernel
theorem dX11_digest_23 : decode cX11_digest 23 = .ok (.iload_n 3, 1) := by decide +kernel
theorem dX11_digest_24 : decode cX11_digest 24 = .ok (.aload_n 0, 1) := by decide +kernel
theorem dX11_digest_25 : decode cX11_digest 25 = .ok (.getfield 12, 3) := by decide +kernel
theorem dX11_digest_28 : decode cX11_digest 28 = .ok (.getfield 96, 3) := by decide +kernel
theorem dX11_digest_31 : decode cX11_digest 31 = .ok (.getfield 100, 3) := by decide +kernel
theorem dX11_digest_34 : decode cX11_digest 34 = .ok (.if_icmp .ge 16, 3) := by decide +kernel
theorem dX11_digest_37 : decode cX11_digest 37 = .ok (.aload_n 0, 1) := by decide +kernel
theorem dX11_digest_38 : decode cX11_digest 38 = .ok (.lload_n 1, 1) := by decide +kernel
theorem dX11_digest_39 : decode cX11_digest 39 = .ok (.iload_n 3, 1) := by decide +kernel
theorem dX11_digest_40 : decode cX11_digest 40 = .ok (.invokevirtual 331, 3) := by decide +kernel
theorem dX11_digest_43 : decode cX11_digest 43 = .ok (.lstore_n 1, 1) := by decide +kernel
theorem dX11_digest_44 : decode cX11_digest 44 = .ok (.iinc 3 1, 3) := by decide +kernel
theorem dX11_digest_47 : decode cX11_digest 47 = .ok (.goto (-24), 3) := by decide +kernel
theorem dX11_digest_50 : decode cX11_digest 50 = .ok (.lload_n 1, 1) := by decide +kernel
theorem dX11_digest_51 : decode cX11_digest 51 = .ok (.aload_n 0, 1) := by decide +kernel
theorem dX11_digest_52 : decode cX11_digest 52 = .ok (.getfield 12, 3) := by decide +kernel
theorem dX11_digest_55 : decode cX11_digest 55 = .ok (.getfield 141, 3) := by decide +kernel
theorem dX11_digest_58 : decode cX11_digest 58 = .ok (.invokestatic 327, 3) := by decide +kernel
theorem dX11_digest_61 : decode cX11_digest 61 = .ok (.aload_n 0, 1) := by decide +kernel
theorem dX11_digest_62 : decode cX11_digest 62 = .ok (.getfield 12, 3) := by decide +kernel
theorem dX11_digest_65 : decode cX11_digest 65 = .ok (.getfield 144, 3) := by decide +kernel
theorem dX11_digest_68 : decode cX11_digest 68 = .ok (.invokestatic 327, 3) := by decide +kernel
theorem dX11_digest_71 : decode cX11_digest 71 = .ok (.aload_n 0, 1) := by decide +kernel
theorem dX11_digest_72 : decode cX11_digest 72 = .ok (.getfield 12, 3) := by decide +kernel
theorem dX11_digest_75 : decode cX11_digest 75 = .ok (.getfield 188, 3) := by decide +kernel
theorem dX11_digest_78 : decode cX11_digest 78 = .ok (.invokestatic 327, 3) := by decide +kernel
theorem dX11_digest_81 : decode cX11_digest 81 = .ok (.lstore_n 1, 1) := by decide +kernel
theorem dX11_digest_82 : decode cX11_digest 82 = .ok (.iconst 0, 1) := by decide +kernel
theorem dX11_digest_83 : decode cX11_digest 83 = .ok (.istore_n 3, 1) := by decide +kernel
theorem dX11_digest_84 : decode cX11_digest 84 = .ok (.iload_n 3, 1) := by decide +kernel
theorem dX11_digest_85 : decode cX11_digest 85 = .ok (.bipush 12, 2) := by decide +kernel
theorem dX11_digest_87 : decode cX11_digest 87 = .ok (.if_icmp .ge 22, 3) := by decide +kernel
theorem dX11_digest_90 : decode cX11_digest 90 = .ok (.aload_n 0, 1) := by decide +kernel
theorem dX11_digest_91 : decode cX11_digest 91 = .ok (.getfield 12, 3) := by decide +kernel
theorem dX11_digest_94 : decode cX11_digest 94 = .ok (.getfield 202, 3) := by decide +kernel
theorem dX11_digest_97 : decode cX11_digest 97 = .ok (.lload_n 1, 1) := by decide +kernel
theorem dX11_digest_98 : decode cX11_digest 98 = .ok (.iload_n 3, 1) := by decide +kernel
theorem dX11_digest_99 : decode cX11_digest 99 = .ok (.invokevirtual 334, 3) := by decide +kernel
theorem dX11_digest_102 : decode cX11_digest 102 = .ok (.lstore_n 1, 1) := by decide +kernel
theorem dX11_digest_103 : decode cX11_digest 103 = .ok (.iinc 3 1, 3) := by decide +kernel
theorem dX11_digest_106 : decode cX11_digest 106 = .ok (.goto (-22), 3) := by decide +kernel
theorem dX11_digest_109 : decode cX11_digest 109 = .ok (.lload_n 1, 1) := by decide +kernel
theorem dX11_digest_110 : decode cX11_digest 110 = .ok (.aload_n 0, 1) := by decide +kernel
theorem dX11_digest_111 : decode cX11_digest 111 = .ok (.getfield 33, 3) := by decide +kernel
theorem dX11_digest_114 : decode cX11_digest 114 = .ok (.getfield 305, 3) := by decide +kernel
theorem dX11_digest_117 : decode cX11_digest 117 = .ok (.invokestatic 327, 3) := by decide +kernel
theorem dX11_digest_120 : decode cX11_digest 120 = .ok (.lstore_n 1, 1) := by decide +kernel
theorem dX11_digest_121 : decode cX11_digest 121 = .ok (.lload_n 1, 1) := by decide +kernel
theorem dX11_digest_122 : decode cX11_digest 122 = .ok (.aload_n 0, 1) := by decide +kernel
theorem dX11_digest_123 : decode cX11_digest 123 = .ok (.getfield 46, 3) := by decide +kernel
theorem dX11_digest_126 : decode cX11_digest 126 = .ok (.iconst 0, 1) := by decide +kernel
theorem dX11_digest_127 : decode cX11_digest 127 = .ok (.invokevirtual 124, 3) := by decide +kernel
theorem dX11_digest_130 : decode cX11_digest 130 = .ok (.aload_n 0, 1) := by decide +kernel
theorem dX11_digest_131 : decode cX11_digest 131 = .ok (.getfield 46, 3) := by decide +kernel
theorem dX11_digest_134 : decode cX11_digest 134 = .ok (.iconst 1, 1) := by decide +kernel
theorem dX11_digest_135 : decode cX11_digest 135 = .ok (.invokevirtual 124, 3) := by decide +kernel
theorem dX11_digest_138 : decode cX11_digest 138 = .ok (.iadd, 1) := by decide +kernel
theorem dX11_digest_139 : decode cX11_digest 139 = .ok (.invokestatic 327, 3) := by decide +kernel
theorem dX11_digest_142 : decode cX11_digest 142 = .ok (.lstore_n 1, 1) := by decide +kernel
theorem dX11_digest_143 : decode cX11_digest 143 = .ok (.lload_n 1, 1) := by decide +kernel
theorem dX11_digest_144 : decode cX11_digest 144 = .ok (.aload_n 0, 1) := by decide +kernel
theorem dX11_digest_145 : decode cX11_digest 145 = .ok (.getfield 19, 3) := by decide +kernel
theorem dX11_digest_148 : decode cX11_digest 148 = .ok (.getfield 89, 3) := by decide +kernel
theorem dX11_digest_151 : decode cX11_digest 151 = .ok (.invokestatic 327, 3) := by decide +kernel
theorem dX11_digest_154 : decode cX11_digest 154 = .ok (.lreturn, 1) := by decide +kernel
theorem dX11_within_0 : decode cX11_within 0 = .ok (.iload_n 0, 1) := by decide +kernel
theorem dX11_within_1 : decode cX11_within 1 = .ok (.iload_n 1, 1) := by decide +kernel
theorem dX11_within_2 : decode cX11_within 2 = .ok (.if_icmp .lt 12, 3) := by decide +kernel
theorem dX11_within_5 : decode cX11_within 5 = .ok (.iload_n 0, 1) := by decide +kernel
theorem dX11_within_6 : decode cX11_within 6 = .ok (.iload_n 2, 1) := by decide +kernel
theorem dX11_within_7 : decode cX11_within 7 = .ok (.if_icmp .gt 7, 3) := by decide +kernel
theorem dX11_within_10 : decode cX11_within 10 = .ok (.iconst 1, 1) := by decide +kernel
theorem dX11_within_11 : decode cX11_within 11 = .ok (.goto 4, 3) := by decide +kernel
theorem dX11_within_14 : decode cX11_within 14 = .ok (.iconst 0, 1) := by decide +kernel
theorem dX11_within_15 : decode cX11_within 15 = .ok (.ireturn, 1) := by decide +kernel
theorem dX11_isWordByte_0 : decode cX11_isWordByte 0 = .ok (.iload_n 0, 1) := by decide +kernel
theorem dX11_isWordByte_1 : decode cX11_isWordByte 1 = .ok (.bipush 97, 2) := by decide +kernel
theorem dX11_isWordByte_3 : decode cX11_isWordByte 3 = .ok (.bipush 122, 2) := by decide +kernel
theorem dX11_isWordByte_5 : decode cX11_isWordByte 5 = .ok (.invokestatic 85, 3) := by decide +kernel
theorem dX11_isWordByte_8 : decode cX11_isWordByte 8 = .ok (.ifCond .ne 31, 3) := by decide +kernel
theorem dX11_isWordByte_11 : decode cX11_isWordByte 11 = .ok (.iload_n 0, 1) := by decide +kernel
theorem dX11_isWordByte_12 : decode cX11_isWordByte 12 = .ok (.bipush 65, 2) := by decide +kernel
theorem dX11_isWordByte_14 : decode cX11_isWordByte 14 = .ok (.bipush 90, 2) := by decide +kernel
theorem dX11_isWordByte_16 : decode cX11_isWordByte 16 = .ok (.invokestatic 85, 3) := by decide +kernel
theorem dX11_isWordByte_19 : decode cX11_isWordByte 19 = .ok (.ifCond .ne 20, 3) := by decide +kernel
theorem dX11_isWordByte_22 : decode cX11_isWordByte 22 = .ok (.iload_n 0, 1) := by decide +kernel
theorem dX11_isWordByte_23 : decode cX11_isWordByte 23 = .ok (.bipush 48, 2) := by decide +kernel
theorem dX11_isWordByte_25 : decode cX11_isWordByte 25 = .ok (.bipush 57, 2) := by decide +kernel
theorem dX11_isWordByte_27 : decode cX11_isWordByte 27 = .ok (.invokestatic 85, 3) := by decide +kernel
theorem dX11_isWordByte_30 : decode cX11_isWordByte 30 = .ok (.ifCond .ne 9, 3) := by decide +kernel
theorem dX11_isWordByte_33 : decode cX11_isWordByte 33 = .ok (.iload_n 0, 1) := by decide +kernel
theorem dX11_isWordByte_34 : decode cX11_isWordByte 34 = .ok (.bipush 95, 2) := by decide +kernel
theorem dX11_isWordByte_36 : decode cX11_isWordByte 36 = .ok (.if_icmp .ne 7, 3) := by decide +kernel
theorem dX11_isWordByte_39 : decode cX11_isWordByte 39 = .ok (.iconst 1, 1) := by decide +kernel
theorem dX11_isWordByte_40 : decode cX11_isWordByte 40 = .ok (.goto 4, 3) := by decide +kernel
theorem dX11_isWordByte_43 : decode cX11_isWordByte 43 = .ok (.iconst 0, 1) := by decide +kernel
theorem dX11_isWordByte_44 : decode cX11_isWordByte 44 = .ok (.ireturn, 1) := by decide +kernel
theorem dX11_canBeginComment_0 : decode cX11_canBeginComment 0 = .ok (.iload_n 0, 1) := by decide +kernel
theorem dX11_canBeginComment_1 : decode cX11_canBeginComment 1 = .ok (.bipush 33, 2) := by decide +kernel
theorem dX11_canBeginComment_3 : decode cX11_canBeginComment 3 = .ok (.bipush 126, 2) := by decide +kernel
theorem dX11_canBeginComment_5 : decode cX11_canBeginComment 5 = .ok (.invokestatic 85, 3) := by decide +kernel
theorem dX11_canBeginComment_8 : decode cX11_canBeginComment 8 = .ok (.ifCond .eq 20, 3) := by decide +kernel
theorem dX11_canBeginComment_11 : decode cX11_canBeginComment 11 = .ok (.iload_n 0, 1) := by decide +kernel
theorem dX11_canBeginComment_12 : decode cX11_canBeginComment 12 = .ok (.bipush 34, 2) := by decide +kernel
theorem dX11_canBeginComment_14 : decode cX11_canBeginComment 14 = .ok (.if_icmp .eq 14, 3) := by decide +kernel
theorem dX11_canBeginComment_17 : decode cX11_canBeginComment 17 = .ok (.iload_n 0, 1) := by decide +kernel
theorem dX11_canBeginComment_18 : decode cX11_canBeginComment 18 = .ok (.invokestatic 337, 3) := by decide +kernel
theorem dX11_canBeginComment_21 : decode cX11_canBeginComment 21 = .ok (.ifCond .ne 7, 3) := by decide +kernel
theorem dX11_canBeginComment_24 : decode cX11_canBeginComment 24 = .ok (.iconst 1, 1) := by decide +kernel
theorem dX11_canBeginComment_25 : decode cX11_canBeginComment 25 = .ok (.goto 4, 3) := by decide +kernel
theorem dX11_canBeginComment_28 : decode cX11_canBeginComment 28 = .ok (.iconst 0, 1) := by decide +kernel
theorem dX11_canBeginComment_29 : decode cX11_canBeginComment 29 = .ok (.ireturn, 1) := by decide +kernel
theorem dX11_isRuleNumber_0 : decode cX11_isRuleNumber 0 = .ok (.iload_n 0, 1) := by decide +kernel
theorem dX11_isRuleNumber_1 : decode cX11_isRuleNumber 1 = .ok (.iconst 0, 1) := by decide +kernel
theorem dX11_isRuleNumber_2 : decode cX11_isRuleNumber 2 = .ok (.bipush 11, 2) := by decide +kernel
theorem dX11_isRuleNumber_4 : decode cX11_isRuleNumber 4 = .ok (.invokestatic 85, 3) := by decide +kernel
theorem dX11_isRuleNumber_7 : decode cX11_isRuleNumber 7 = .ok (.ireturn, 1) := by decide +kernel
theorem dX11_imageAt_0 : decode cX11_imageAt 0 = .ok (.iload_n 1, 1) := by decide +kernel
theorem dX11_imageAt_1 : decode cX11_imageAt 1 = .ok (.ifCond .lt 21, 3) := by decide +kernel
theorem dX11_imageAt_4 : decode cX11_imageAt 4 = .ok (.iload_n 1, 1) := by decide +kernel
theorem dX11_imageAt_5 : decode cX11_imageAt 5 = .ok (.aload_n 0, 1) := by decide +kernel
theorem dX11_imageAt_6 : decode cX11_imageAt 6 = .ok (.getfield 37, 3) := by decide +kernel
theorem dX11_imageAt_9 : decode cX11_imageAt 9 = .ok (.arraylength, 1) := by decide +kernel
theorem dX11_imageAt_10 : decode cX11_imageAt 10 = .ok (.if_icmp .ge 12, 3) := by decide +kernel
theorem dX11_imageAt_13 : decode cX11_imageAt 13 = .ok (.aload_n 0, 1) := by decide +kernel
theorem dX11_imageAt_14 : decode cX11_imageAt 14 = .ok (.getfield 37, 3) := by decide +kernel
theorem dX11_imageAt_17 : decode cX11_imageAt 17 = .ok (.iload_n 1, 1) := by decide +kernel
theorem dX11_imageAt_18 : decode cX11_imageAt 18 = .ok (.aaload, 1) := by decide +kernel
theorem dX11_imageAt_19 : decode cX11_imageAt 19 = .ok (.goto 4, 3) := by decide +kernel
theorem dX11_imageAt_22 : decode cX11_imageAt 22 = .ok (.aconst_null, 1) := by decide +kernel
theorem dX11_imageAt_23 : decode cX11_imageAt 23 = .ok (.areturn, 1) := by decide +kernel
theorem dX11_columnFrom_0 : decode cX11_columnFrom 0 = .ok (.iload_n 2, 1) := by decide +kernel
theorem dX11_columnFrom_1 : decode cX11_columnFrom 1 = .ok (.ifCond .le 16, 3) := by decide +kernel
theorem dX11_columnFrom_4 : decode cX11_columnFrom 4 = .ok (.bipush 40, 2) := by decide +kernel
theorem dX11_columnFrom_6 : decode cX11_columnFrom 6 = .ok (.iload_n 0, 1) := by decide +kernel
theorem dX11_columnFrom_7 : decode cX11_columnFrom 7 = .ok (.iload_n 2, 1) := by decide +kernel
theorem dX11_columnFrom_8 : decode cX11_columnFrom 8 = .ok (.iload_n 3, 1) := by decide +kernel
theorem dX11_columnFrom_9 : decode cX11_columnFrom 9 = .ok (.imul, 1) := by decide +kernel
theorem dX11_columnFrom_10 : decode cX11_columnFrom 10 = .ok (.iadd, 1) := by decide +kernel
theorem dX11_columnFrom_11 : decode cX11_columnFrom 11 = .ok (.invokestatic 317, 3) := by decide +kernel
theorem dX11_columnFrom_14 : decode cX11_columnFrom 14 = .ok (.goto 6, 3) := by decide +kernel
theorem dX11_columnFrom_17 : decode cX11_columnFrom 17 = .ok (.iload_n 0, 1) := by decide +kernel
theorem dX11_columnFrom_18 : decode cX11_columnFrom 18 = .ok (.iload_n 1, 1) := by decide +kernel
theorem dX11_columnFrom_19 : decode cX11_columnFrom 19 = .ok (.iadd, 1) := by decide +kernel
theorem dX11_columnFrom_20 : decode cX11_columnFrom 20 = .ok (.ireturn, 1) := by decide +kernel
theorem dX11_mix_0 : decode cX11_mix 0 = .ok (.ldc2_w 340, 3) := by decide +kernel
theorem dX11_mix_3 : decode cX11_mix 3 = .ok (.lload_n 0, 1) := by decide +kernel
theorem dX11_mix_4 : decode cX11_mix 4 = .ok (.lmul, 1) := by decide +kernel
theorem dX11_mix_5 : decode cX11_mix 5 = .ok (.iload_n 2, 1) := by decide +kernel
theorem dX11_mix_6 : decode cX11_mix 6 = .ok (.i2l, 1) := by decide +kernel
theorem dX11_mix_7 : decode cX11_mix 7 = .ok (.ladd, 1) := by decide +kernel
theorem dX11_mix_8 : decode cX11_mix 8 = .ok (.lreturn, 1) := by decide +kernel
theorem dX11_beginChange_0 : decode cX11_beginChange 0 = .ok (.aload_n 0, 1) := by decide +kernel
theorem dX11_beginChange_1 : decode cX11_beginChange 1 = .ok (.getfield 33, 3) := by decide +kernel
theorem dX11_beginChange_4 : decode cX11_beginChange 4 = .ok (.aload_n 0, 1) := by decide +kernel
theorem dX11_beginChange_5 : decode cX11_beginChange 5 = .ok (.getfield 12, 3) := by decide +kernel
theorem dX11_beginChange_8 : decode cX11_beginChange 8 = .ok (.invokevirtual 342, 3) := by decide +kernel
theorem dX11_beginChange_11 : decode cX11_beginChange 11 = .ok (.aload_n 0, 1) := by decide +kernel
theorem dX11_beginChange_12 : decode cX11_beginChange 12 = .ok (.iconst 0, 1) := by decide +kernel
theorem dX11_beginChange_13 : decode cX11_beginChange 13 = .ok (.putfield 81, 3) := by decide +kernel
theorem dX11_beginChange_16 : decode cX11_beginChange 16 = .ok (.return_, 1) := by decide +kernel
theorem dX11_study_0 : decode cX11_study 0 = .ok (.aload_n 0, 1) := by decide +kernel
theorem dX11_study_1 : decode cX11_study 1 = .ok (.getfield 81, 3) := by decide +kernel
theorem dX11_study_4 : decode cX11_study 4 = .ok (.ifCond .ne 63, 3) := by decide +kernel
theorem dX11_study_7 : decode cX11_study 7 = .ok (.aload_n 0, 1) := by decide +kernel
theorem dX11_study_8 : decode cX11_study 8 = .ok (.getfield 53, 3) := by decide +kernel
theorem dX11_study_11 : decode cX11_study 11 = .ok (.aload_n 0, 1) := by decide +kernel
theorem dX11_study_12 : decode cX11_study 12 = .ok (.getfield 12, 3) := by decide +kernel
theorem dX11_study_15 : decode cX11_study 15 = .ok (.getfield 96, 3) := by decide +kernel
theorem dX11_study_18 : decode cX11_study 18 = .ok (.aload_n 0, 1) := by decide +kernel
theorem dX11_study_19 : decode cX11_study 19 = .ok (.getfield 12, 3) := by decide +kernel
theorem dX11_study_22 : decode cX11_study 22 = .ok (.getfield 188, 3) := by decide +kernel
theorem dX11_study_25 : decode cX11_study 25 = .ok (.invokevirtual 345, 3) := by decide +kernel
theorem dX11_study_28 : decode cX11_study 28 = .ok (.aload_n 0, 1) := by decide +kernel
theorem dX11_study_29 : decode cX11_study 29 = .ok (.getfield 60, 3) := by decide +kernel
theorem dX11_study_32 : decode cX11_study 32 = .ok (.aload_n 0, 1) := by decide +kernel
theorem dX11_study_33 : decode cX11_study 33 = .ok (.getfield 12, 3) := by decide +kernel
theorem dX11_study_36 : decode cX11_study 36 = .ok (.aload_n 0, 1) := by decide +kernel
theorem dX11_study_37 : decode cX11_study 37 = .ok (.getfield 53, 3) := by decide +kernel
theorem dX11_study_40 : decode cX11_study 40 = .ok (.invokevirtual 348, 3) := by decide +kernel
theorem dX11_study_43 : decode cX11_study 43 = .ok (.aload_n 0, 1) := by decide +kernel
theorem dX11_study_44 : decode cX11_study 44 = .ok (.getfield 67, 3) := by decide +kernel
theorem dX11_study_47 : decode cX11_study 47 = .ok (.aload_n 0, 1) := by decide +kernel
theorem dX11_study_48 : decode cX11_study 48 = .ok (.getfield 12, 3) := by decide +kernel
theorem dX11_study_51 : decode cX11_study 51 = .ok (.aload_n 0, 1) := by decide +kernel
theorem dX11_study_52 : decode cX11_study 52 = .ok (.getfield 53, 3) := by decide +kernel
theorem dX11_study_55 : decode cX11_study 55 = .ok (.aload_n 0, 1) := by decide +kernel
theorem dX11_study_56 : decode cX11_study 56 = .ok (.getfield 60, 3) := by decide +kernel
theorem dX11_study_59 : decode cX11_study 59 = .ok (.invokevirtual 352, 3) := by decide +kernel
theorem dX11_study_62 : decode cX11_study 62 = .ok (.aload_n 0, 1) := by decide +kernel
theorem dX11_study_63 : decode cX11_study 63 = .ok (.iconst 1, 1) := by decide +kernel
theorem dX11_study_64 : decode cX11_study 64 = .ok (.putfield 81, 3) := by decide +kernel
theorem dX11_study_67 : decode cX11_study 67 = .ok (.return_, 1) := by decide +kernel
theorem dX11_refusalOfOneText_0 : decode cX11_refusalOfOneText 0 = .ok (.iload_n 1, 1) := by decide +kernel
theorem dX11_refusalOfOneText_1 : decode cX11_refusalOfOneText 1 = .ok (.invokestatic 191, 3) := by decide +kernel
theorem dX11_refusalOfOneText_4 : decode cX11_refusalOfOneText 4 = .ok (.ifCond .eq 23, 3) := by decide +kernel
theorem dX11_refusalOfOneText_7 : decode cX11_refusalOfOneText 7 = .ok (.iload_n 2, 1) := by decide +kernel
theorem dX11_refusalOfOneText_8 : decode cX11_refusalOfOneText 8 = .ok (.iconst 0, 1) := by decide +kernel
theorem dX11_refusalOfOneText_9 : decode cX11_refusalOfOneText 9 = .ok (.bipush 9, 2) := by decide +kernel
theorem dX11_refusalOfOneText_11 : decode cX11_refusalOfOneText 11 = .ok (.invokestatic 85, 3) := by decide +kernel
theorem dX11_refusalOfOneText_14 : decode cX11_refusalOfOneText 14 = .ok (.ifCond .eq 13, 3) := by decide +kernel
theorem dX11_refusalOfOneText_17 : decode cX11_refusalOfOneText 17 = .ok (.iload_n 3, 1) := by decide +kernel
theorem dX11_refusalOfOneText_18 : decode cX11_refusalOfOneText 18 = .ok (.bipush (-4), 2) := by decide +kernel
theorem dX11_refusalOfOneText_20 : decode cX11_refusalOfOneText 20 = .ok (.iconst 4, 1) := by decide +kernel
theorem dX11_refusalOfOneText_21 : decode cX11_refusalOfOneText 21 = .ok (.invokestatic 85, 3) := by decide +kernel
theorem dX11_refusalOfOneText_24 : decode cX11_refusalOfOneText 24 = .ok (.ifCond .ne 5, 3) := by decide +kernel
theorem dX11_refusalOfOneText_27 : decode cX11_refusalOfOneText 27 = .ok (.iconst (-1), 1) := by decide +kernel
theorem dX11_refusalOfOneText_28 : decode cX11_refusalOfOneText 28 = .ok (.ireturn, 1) := by decide +kernel
theorem dX11_refusalOfOneText_29 : decode cX11_refusalOfOneText 29 = .ok (.aload_n 0, 1) := by decide +kernel
theorem dX11_refusalOfOneText_30 : decode cX11_refusalOfOneText 30 = .ok (.getfield 26, 3) := by decide +kernel
theorem dX11_refusalOfOneText_33 : decode cX11_refusalOfOneText 33 = .ok (.aload_n 0, 1) := by decide +kernel
theorem dX11_refusalOfOneText_34 : decode cX11_refusalOfOneText 34 = .ok (.getfield 19, 3) := by decide +kernel
theorem dX11_refusalOfOneText_37 : decode cX11_refusalOfOneText 37 = .ok (.iconst 1, 1) := by decide +kernel
theorem dX11_refusalOfOneText_38 : decode cX11_refusalOfOneText 38 = .ok (.invokevirtual 194, 3) := by decide +kernel
theorem dX11_refusalOfOneText_41 : decode cX11_refusalOfOneText 41 = .ok (.ireturn, 1) := by decide +kernel
theorem dX11_makeRule_0 : decode cX11_makeRule 0 = .ok (.aload_n 0, 1) := by decide +kernel
theorem dX11_makeRule_1 : decode cX11_makeRule 1 = .ok (.getfield 12, 3) := by decide +kernel
theorem dX11_makeRule_4 : decode cX11_makeRule 4 = .ok (.getfield 202, 3) := by decide +kernel
theorem dX11_makeRule_7 : decode cX11_makeRule 7 = .ok (.iload_n 1, 1) := by decide +kernel
theorem dX11_makeRule_8 : decode cX11_makeRule 8 = .ok (.invokevirtual 217, 3) := by decide +kernel
theorem dX11_makeRule_11 : decode cX11_makeRule 11 = .ok (.ifCond .eq 7, 3) := by decide +kernel
theorem dX11_makeRule_14 : decode cX11_makeRule 14 = .ok (.iconst 1, 1) := by decide +kernel
theorem dX11_makeRule_15 : decode cX11_makeRule 15 = .ok (.goto 4, 3) := by decide +kernel
theorem dX11_makeRule_18 : decode cX11_makeRule 18 = .ok (.iconst 0, 1) := by decide +kernel
theorem dX11_makeRule_19 : decode cX11_makeRule 19 = .ok (.istore 5, 2) := by decide +kernel
theorem dX11_makeRule_21 : decode cX11_makeRule 21 = .ok (.aload_n 0, 1) := by decide +kernel
theorem dX11_makeRule_22 : decode cX11_makeRule 22 = .ok (.getfield 12, 3) := by decide +kernel
theorem dX11_makeRule_25 : decode cX11_makeRule 25 = .ok (.getfield 202, 3) := by decide +kernel
theorem dX11_makeRule_28 : decode cX11_makeRule 28 = .ok (.iload_n 1, 1) := by decide +kernel
theorem dX11_makeRule_29 : decode cX11_makeRule 29 = .ok (.iload_n 2, 1) := by decide +kernel
theorem dX11_makeRule_30 : decode cX11_makeRule 30 = .ok (.iload_n 3, 1) := by decide +kernel
theorem dX11_makeRule_31 : decode cX11_makeRule 31 = .ok (.iload 4, 2) := by decide +kernel
theorem dX11_makeRule_33 : decode cX11_makeRule 33 = .ok (.invokevirtual 356, 3) := by decide +kernel
theorem dX11_makeRule_36 : decode cX11_makeRule 36 = .ok (.aload_n 0, 1) := by decide +kernel
theorem dX11_makeRule_37 : decode cX11_makeRule 37 = .ok (.getfield 26, 3) := by decide +kernel
theorem dX11_makeRule_40 : decode cX11_makeRule 40 = .ok (.aload_n 0, 1) := by decide +kernel
theorem dX11_makeRule_41 : decode cX11_makeRule 41 = .ok (.getfield 19, 3) := by decide +kernel
theorem dX11_makeRule_44 : decode cX11_makeRule 44 = .ok (.aload_n 0, 1) := by decide +kernel
theorem dX11_makeRule_45 : decode cX11_makeRule 45 = .ok (.getfield 12, 3) := by decide +kernel
theorem dX11_makeRule_48 : decode cX11_makeRule 48 = .ok (.getfield 202, 3) := by decide +kernel
theorem dX11_makeRule_51 : decode cX11_makeRule 51 = .ok (.iload_n 1, 1) := by decide +kernel
theorem dX11_makeRule_52 : decode cX11_makeRule 52 = .ok (.invokevirtual 360, 3) := by decide +kernel
theorem dX11_makeRule_55 : decode cX11_makeRule 55 = .ok (.iload 5, 2) := by decide +kernel
theorem dX11_makeRule_57 : decode cX11_makeRule 57 = .ok (.ireturn, 1) := by decide +kernel
theorem dX11_indentAnew_0 : decode cX11_indentAnew 0 = .ok (.aload_n 0, 1) := by decide +kernel
theorem dX11_indentAnew_1 : decode cX11_indentAnew 1 = .ok (.getfield 67, 3) := by decide +kernel
theorem dX11_indentAnew_4 : decode cX11_indentAnew 4 = .ok (.iload_n 1, 1) := by decide +kernel
theorem dX11_indentAnew_5 : decode cX11_indentAnew 5 = .ok (.aload_n 2, 1) := by decide +kernel
theorem dX11_indentAnew_6 : decode cX11_indentAnew 6 = .ok (.iload_n 3, 1) := by decide +kernel
theorem dX11_indentAnew_7 : decode cX11_indentAnew 7 = .ok (.iload 4, 2) := by decide +kernel
theorem dX11_indentAnew_9 : decode cX11_indentAnew 9 = .ok (.invokevirtual 147, 3) := by decide +kernel
theorem dX11_indentAnew_12 : decode cX11_indentAnew 12 = .ok (.istore 5, 2) := by decide +kernel
theorem dX11_indentAnew_14 : decode cX11_indentAnew 14 = .ok (.iload 5, 2) := by decide +kernel
theorem dX11_indentAnew_16 : decode cX11_indentAnew 16 = .ok (.bipush (-9), 2) := by decide +kernel
theorem dX11_indentAnew_18 : decode cX11_indentAnew 18 = .ok (.if_icmp .eq 30, 3) := by decide +kernel
theorem dX11_indentAnew_21 : decode cX11_indentAnew 21 = .ok (.aload_n 0, 1) := by decide +kernel
theorem dX11_indentAnew_22 : decode cX11_indentAnew 22 = .ok (.getfield 12, 3) := by decide +kernel
theorem dX11_indentAnew_25 : decode cX11_indentAnew 25 = .ok (.getfield 96, 3) := by decide +kernel
theorem dX11_indentAnew_28 : decode cX11_indentAnew 28 = .ok (.getfield 171, 3) := by decide +kernel
theorem dX11_indentAnew_31 : decode cX11_indentAnew 31 = .ok (.iload_n 1, 1) := by decide +kernel
theorem dX11_indentAnew_32 : decode cX11_indentAnew 32 = .ok (.invokevirtual 124, 3) := by decide +kernel
theorem dX11_indentAnew_35 : decode cX11_indentAnew 35 = .ok (.ifCond .ne 13, 3) := by decide +kernel
theorem dX11_indentAnew_38 : decode cX11_indentAnew 38 = .ok (.aload_n 2, 1) := by decide +kernel
theorem dX11_indentAnew_39 : decode cX11_indentAnew 39 = .ok (.iload_n 1, 1) := by decide +kernel
theorem dX11_indentAnew_40 : decode cX11_indentAnew 40 = .ok (.invokevirtual 124, 3) := by decide +kernel
theorem dX11_indentAnew_43 : decode cX11_indentAnew 43 = .ok (.iload 5, 2) := by decide +kernel
theorem dX11_indentAnew_45 : decode cX11_indentAnew 45 = .ok (.if_icmp .ne 5, 3) := by decide +kernel
theorem dX11_indentAnew_48 : decode cX11_indentAnew 48 = .ok (.iconst 0, 1) := by decide +kernel
theorem dX11_indentAnew_49 : decode cX11_indentAnew 49 = .ok (.ireturn, 1) := by decide +kernel
theorem dX11_indentAnew_50 : decode cX11_indentAnew 50 = .ok (.aload_n 2, 1) := by decide +kernel
theorem dX11_indentAnew_51 : decode cX11_indentAnew 51 = .ok (.iload_n 1, 1) := by decide +kernel
theorem dX11_indentAnew_52 : decode cX11_indentAnew 52 = .ok (.iload 5, 2) := by decide +kernel
theorem dX11_indentAnew_54 : decode cX11_indentAnew 54 = .ok (.invokevirtual 151, 3) := by decide +kernel
theorem dX11_indentAnew_57 : decode cX11_indentAnew 57 = .ok (.iconst 1, 1) := by decide +kernel
theorem dX11_indentAnew_58 : decode cX11_indentAnew 58 = .ok (.ireturn, 1) := by decide +kernel
theorem dX11_linesChangedWith_0 : decode cX11_linesChangedWith 0 = .ok (.aload_n 0, 1) := by decide +kernel
theorem dX11_linesChangedWith_1 : decode cX11_linesChangedWith 1 = .ok (.getfield 78, 3) := by decide +kernel
theorem dX11_linesChangedWith_4 : decode cX11_linesChangedWith 4 = .ok (.aload_n 0, 1) := by decide +kernel
theorem dX11_linesChangedWith_5 : decode cX11_linesChangedWith 5 = .ok (.getfield 12, 3) := by decide +kernel
theorem dX11_linesChangedWith_8 : decode cX11_linesChangedWith 8 = .ok (.getfield 96, 3) := by decide +kernel
theorem dX11_linesChangedWith_11 : decode cX11_linesChangedWith 11 = .ok (.getfield 121, 3) := by decide +kernel
theorem dX11_linesChangedWith_14 : decode cX11_linesChangedWith 14 = .ok (.invokevirtual 364, 3) := by decide +kernel
theorem dX11_linesChangedWith_17 : decode cX11_linesChangedWith 17 = .ok (.iconst 0, 1) := by decide +kernel
theorem dX11_linesChangedWith_18 : decode cX11_linesChangedWith 18 = .ok (.istore_n 3, 1) := by decide +kernel
theorem dX11_linesChangedWith_19 : decode cX11_linesChangedWith 19 = .ok (.iconst 0, 1) := by decide +kernel
theorem dX11_linesChangedWith_20 : decode cX11_linesChangedWith 20 = .ok (.istore 4, 2) := by decide +kernel
theorem dX11_linesChangedWith_22 : decode cX11_linesChangedWith 22 = .ok (.iload 4, 2) := by decide +kernel
theorem dX11_linesChangedWith_24 : decode cX11_linesChangedWith 24 = .ok (.aload_n 0, 1) := by decide +kernel
theorem dX11_linesChangedWith_25 : decode cX11_linesChangedWith 25 = .ok (.getfield 12, 3) := by decide +kernel
theorem dX11_linesChangedWith_28 : decode cX11_linesChangedWith 28 = .ok (.getfield 96, 3) := by decide +kernel
theorem dX11_linesChangedWith_31 : decode cX11_linesChangedWith 31 = .ok (.getfield 100, 3) := by decide +kernel
theorem dX11_linesChangedWith_34 : decode cX11_linesChangedWith 34 = .ok (.if_icmp .ge 31, 3) := by decide +kernel
theorem dX11_linesChangedWith_37 : decode cX11_linesChangedWith 37 = .ok (.aload_n 0, 1) := by decide +kernel
theorem dX11_linesChangedWith_38 : decode cX11_linesChangedWith 38 = .ok (.iload 4, 2) := by decide +kernel
theorem dX11_linesChangedWith_40 : decode cX11_linesChangedWith 40 = .ok (.aload_n 0, 1) := by decide +kernel
theorem dX11_linesChangedWith_41 : decode cX11_linesChangedWith 41 = .ok (.getfield 78, 3) := by decide +kernel
theorem dX11_linesChangedWith_44 : decode cX11_linesChangedWith 44 = .ok (.iload_n 1, 1) := by decide +kernel
theorem dX11_linesChangedWith_45 : decode cX11_linesChangedWith 45 = .ok (.iload_n 2, 1) := by decide +kernel
theorem dX11_linesChangedWith_46 : decode cX11_linesChangedWith 46 = .ok (.invokevirtual 174, 3) := by decide +kernel
theorem dX11_linesChangedWith_49 : decode cX11_linesChangedWith 49 = .ok (.ifCond .eq 10, 3) := by decide +kernel
theorem dX11_linesChangedWith_52 : decode cX11_linesChangedWith 52 = .ok (.iload_n 3, 1) := by decide +kernel
theorem dX11_linesChangedWith_53 : decode cX11_linesChangedWith 53 = .ok (.iconst 1, 1) := by decide +kernel
theorem dX11_linesChangedWith_54 : decode cX11_linesChangedWith 54 = .ok (.iload 4, 2) := by decide +kernel
theorem dX11_linesChangedWith_56 : decode cX11_linesChangedWith 56 = .ok (.ishl, 1) := by decide +kernel
theorem dX11_linesChangedWith_57 : decode cX11_linesChangedWith 57 = .ok (.ior, 1) := by decide +kernel
theorem dX11_linesChangedWith_58 : decode cX11_linesChangedWith 58 = .ok (.istore_n 3, 1) := by decide +kernel
theorem dX11_linesChangedWith_59 : decode cX11_linesChangedWith 59 = .ok (.iinc 4 1, 3) := by decide +kernel
theorem dX11_linesChangedWith_62 : decode cX11_linesChangedWith 62 = .ok (.goto (-40), 3) := by decide +kernel
theorem dX11_linesChangedWith_65 : decode cX11_linesChangedWith 65 = .ok (.iload_n 3, 1) := by decide +kernel
theorem dX11_linesChangedWith_66 : decode cX11_linesChangedWith 66 = .ok (.ireturn, 1) := by decide +kernel
theorem dX11_findBestSetting_0 : decode cX11_findBestSetting 0 = .ok (.iconst 0, 1) := by decide +kernel
theorem dX11_findBestSetting_1 : decode cX11_findBestSetting 1 = .ok (.istore_n 1, 1) := by decide +kernel
theorem dX11_findBestSetting_2 : decode cX11_findBestSetting 2 = .ok (.bipush 21, 2) := by decide +kernel
theorem dX11_findBestSetting_4 : decode cX11_findBestSetting 4 = .ok (.istore_n 2, 1) := by decide +kernel
theorem dX11_findBestSetting_5 : decode cX11_findBestSetting 5 = .ok (.iconst 1, 1) := by decide +kernel
theorem dX11_findBestSetting_6 : decode cX11_findBestSetting 6 = .ok (.istore_n 3, 1) := by decide +kernel
theorem dX11_findBestSetting_7 : decode cX11_findBestSetting 7 = .ok (.iload_n 3, 1) := by decide +kernel
theorem dX11_findBestSetting_8 : decode cX11_findBestSetting 8 = .ok (.bipush 8, 2) := by decide +kernel
theorem dX11_findBestSetting_10 : decode cX11_findBestSetting 10 = .ok (.if_icmp .gt 54, 3) := by decide +kernel
theorem dX11_findBestSetting_13 : decode cX11_findBestSetting 13 = .ok (.iconst 0, 1) := by decide +kernel
theorem dX11_findBestSetting_14 : decode cX11_findBestSetting 14 = .ok (.istore 4, 2) := by decide +kernel
theorem dX11_findBestSetting_16 : decode cX11_findBestSetting 16 = .ok (.iload 4, 2) := by decide +kernel
theorem dX11_findBestSetting_18 : decode cX11_findBestSetting 18 = .ok (.bipush 20, 2) := by decide +kernel
theorem dX11_findBestSetting_20 : decode cX11_findBestSetting 20 = .ok (.if_icmp .gt 38, 3) := by decide +kernel
theorem dX11_findBestSetting_23 : decode cX11_findBestSetting 23 = .ok (.aload_n 0, 1) := by decide +kernel
theorem dX11_findBestSetting_24 : decode cX11_findBestSetting 24 = .ok (.iload_n 3, 1) := by decide +kernel
theorem dX11_findBestSetting_25 : decode cX11_findBestSetting 25 = .ok (.iload 4, 2) := by decide +kernel
theorem dX11_findBestSetting_27 : decode cX11_findBestSetting 27 = .ok (.invokevirtual 231, 3) := by decide +kernel
theorem dX11_findBestSetting_30 : decode cX11_findBestSetting 30 = .ok (.invokestatic 234, 3) := by decide +kernel
theorem dX11_findBestSetting_33 : decode cX11_findBestSetting 33 = .ok (.istore 5, 2) := by decide +kernel
theorem dX11_findBestSetting_35 : decode cX11_findBestSetting 35 = .ok (.iload 5, 2) := by decide +kernel
theorem dX11_findBestSetting_37 : decode cX11_findBestSetting 37 = .ok (.iload_n 2, 1) := by decide +kernel
theorem dX11_findBestSetting_38 : decode cX11_findBestSetting 38 = .ok (.if_icmp .ge 14, 3) := by decide +kernel
theorem dX11_findBestSetting_41 : decode cX11_findBestSetting 41 = .ok (.iload 5, 2) := by decide +kernel
theorem dX11_findBestSetting_43 : decode cX11_findBestSetting 43 = .ok (.istore_n 2, 1) := by decide +kernel
theorem dX11_findBestSetting_44 : decode cX11_findBestSetting 44 = .ok (.iload_n 3, 1) := by decide +kernel
theorem dX11_findBestSetting_45 : decode cX11_findBestSetting 45 = .ok (.bipush 100, 2) := by decide +kernel
theorem dX11_findBestSetting_47 : decode cX11_findBestSetting 47 = .ok (.imul, 1) := by decide +kernel
theorem dX11_findBestSetting_48 : decode cX11_findBestSetting 48 = .ok (.iload 4, 2) := by decide +kernel
theorem dX11_findBestSetting_50 : decode cX11_findBestSetting 50 = .ok (.iadd, 1) := by decide +kernel
theorem dX11_findBestSetting_51 : decode cX11_findBestSetting 51 = .ok (.istore_n 1, 1) := by decide +kernel
theorem dX11_findBestSetting_52 : decode cX11_findBestSetting 52 = .ok (.iinc 4 1, 3) := by decide +kernel
theorem dX11_findBestSetting_55 : decode cX11_findBestSetting 55 = .ok (.goto (-39), 3) := by decide +kernel
theorem dX11_findBestSetting_58 : decode cX11_findBestSetting 58 = .ok (.iinc 3 1, 3) := by decide +kernel
theorem dX11_findBestSetting_61 : decode cX11_findBestSetting 61 = .ok (.goto (-54), 3) := by decide +kernel
theorem dX11_findBestSetting_64 : decode cX11_findBestSetting 64 = .ok (.iload_n 1, 1) := by decide +kernel
theorem dX11_findBestSetting_65 : decode cX11_findBestSetting 65 = .ok (.ireturn, 1) := by decide +kernel
theorem dX11_findToken_0 : decode cX11_findToken 0 = .ok (.aload_n 0, 1) := by decide +kernel
theorem dX11_findToken_1 : decode cX11_findToken 1 = .ok (.getfield 12, 3) := by decide +kernel
theorem dX11_findToken_4 : decode cX11_findToken 4 = .ok (.getfield 96, 3) := by decide +kernel
theorem dX11_findToken_7 : decode cX11_findToken 7 = .ok (.iload_n 1, 1) := by decide +kernel
theorem dX11_findToken_8 : decode cX11_findToken 8 = .ok (.invokevirtual 117, 3) := by decide +kernel
theorem dX11_findToken_11 : decode cX11_findToken 11 = .ok (.ifCond .eq 23, 3) := by decide +kernel
theorem dX11_findToken_14 : decode cX11_findToken 14 = .ok (.iload_n 2, 1) := by decide +kernel
theorem dX11_findToken_15 : decode cX11_findToken 15 = .ok (.ifCond .lt 19, 3) := by decide +kernel
theorem dX11_findToken_18 : decode cX11_findToken 18 = .ok (.iload_n 2, 1) := by decide +kernel
theorem dX11_findToken_19 : decode cX11_findToken 19 = .ok (.aload_n 0, 1) := by decide +kernel
theorem dX11_findToken_20 : decode cX11_findToken 20 = .ok (.getfield 53, 3) := by decide +kernel
theorem dX11_findToken_23 : decode cX11_findToken 23 = .ok (.iload_n 1, 1) := by decide +kernel
theorem dX11_findToken_24 : decode cX11_findToken 24 = .ok (.invokevirtual 242, 3) := by decide +kernel
theorem dX11_findToken_27 : decode cX11_findToken 27 = .ok (.if_icmp .ge 7, 3) := by decide +kernel
theorem dX11_findToken_30 : decode cX11_findToken 30 = .ok (.iconst 1, 1) := by decide +kernel
theorem dX11_findToken_31 : decode cX11_findToken 31 = .ok (.goto 4, 3) := by decide +kernel
theorem dX11_findToken_34 : decode cX11_findToken 34 = .ok (.iconst 0, 1) := by decide +kernel
theorem dX11_findToken_35 : decode cX11_findToken 35 = .ok (.istore_n 3, 1) := by decide +kernel
theorem dX11_findToken_36 : decode cX11_findToken 36 = .ok (.iload_n 3, 1) := by decide +kernel
theorem dX11_findToken_37 : decode cX11_findToken 37 = .ok (.ifCond .eq 19, 3) := by decide +kernel
theorem dX11_findToken_40 : decode cX11_findToken 40 = .ok (.aload_n 0, 1) := by decide +kernel
theorem dX11_findToken_41 : decode cX11_findToken 41 = .ok (.getfield 53, 3) := by decide +kernel
theorem dX11_findToken_44 : decode cX11_findToken 44 = .ok (.getfield 367, 3) := by decide +kernel
theorem dX11_findToken_47 : decode cX11_findToken 47 = .ok (.iload_n 1, 1) := by decide +kernel
theorem dX11_findToken_48 : decode cX11_findToken 48 = .ok (.invokevirtual 124, 3) := by decide +kernel
theorem dX11_findToken_51 : decode cX11_findToken 51 = .ok (.iload_n 2, 1) := by decide +kernel
theorem dX11_findToken_52 : decode cX11_findToken 52 = .ok (.iadd, 1) := by decide +kernel
theorem dX11_findToken_53 : decode cX11_findToken 53 = .ok (.goto 4, 3) := by decide +kernel
theorem dX11_findToken_56 : decode cX11_findToken 56 = .ok (.iconst (-1), 1) := by decide +kernel
theorem dX11_findToken_57 : decode cX11_findToken 57 = .ok (.ireturn, 1) := by decide +kernel
theorem dX11_findBlock_0 : decode cX11_findBlock 0 = .ok (.iload_n 1, 1) := by decide +kernel
theorem dX11_findBlock_1 : decode cX11_findBlock 1 = .ok (.iconst 0, 1) := by decide +kernel
theorem dX11_findBlock_2 : decode cX11_findBlock 2 = .ok (.aload_n 0, 1) := by decide +kernel
theorem dX11_findBlock_3 : decode cX11_findBlock 3 = .ok (.getfield 12, 3) := by decide +kernel
theorem dX11_findBlock_6 : decode cX11_findBlock 6 = .ok (.getfield 96, 3) := by decide +kernel
theorem dX11_findBlock_9 : decode cX11_findBlock 9 = .ok (.getfield 100, 3) := by decide +kernel
theorem dX11_findBlock_12 : decode cX11_findBlock 12 = .ok (.invokestatic 85, 3) := by decide +kernel
theorem dX11_findBlock_15 : decode cX11_findBlock 15 = .ok (.ifCond .eq 15, 3) := by decide +kernel
theorem dX11_findBlock_18 : decode cX11_findBlock 18 = .ok (.aload_n 0, 1) := by decide +kernel
theorem dX11_findBlock_19 : decode cX11_findBlock 19 = .ok (.getfield 60, 3) := by decide +kernel
theorem dX11_findBlock_22 : decode cX11_findBlock 22 = .ok (.iload_n 1, 1) := by decide +kernel
theorem dX11_findBlock_23 : decode cX11_findBlock 23 = .ok (.iload_n 2, 1) := by decide +kernel
theorem dX11_findBlock_24 : decode cX11_findBlock 24 = .ok (.invokevirtual 370, 3) := by decide +kernel
theorem dX11_findBlock_27 : decode cX11_findBlock 27 = .ok (.goto 4, 3) := by decide +kernel
theorem dX11_findBlock_30 : decode cX11_findBlock 30 = .ok (.iconst (-1), 1) := by decide +kernel
theorem dX11_findBlock_31 : decode cX11_findBlock 31 = .ok (.ireturn, 1) := by decide +kernel
theorem dX11_placeOf_0 : decode cX11_placeOf 0 = .ok (.iload_n 1, 1) := by decide +kernel
theorem dX11_placeOf_1 : decode cX11_placeOf 1 = .ok (.iconst (-1), 1) := by decide +kernel
theorem dX11_placeOf_2 : decode cX11_placeOf 2 = .ok (.if_icmp .ne 6, 3) := by decide +kernel
theorem dX11_placeOf_5 : decode cX11_placeOf 5 = .ok (.bipush (-9), 2) := by decide +kernel
theorem dX11_placeOf_7 : decode cX11_placeOf 7 = .ok (.ireturn, 1) := by decide +kernel
theorem dX11_placeOf_8 : decode cX11_placeOf 8 = .ok (.aload_n 0, 1) := by decide +kernel
theorem dX11_placeOf_9 : decode cX11_placeOf 9 = .ok (.getfield 53, 3) := by decide +kernel
theorem dX11_placeOf_12 : decode cX11_placeOf 12 = .ok (.getfield 273, 3) := by decide +kernel
theorem dX11_placeOf_15 : decode cX11_placeOf 15 = .ok (.iload_n 1, 1) := by decide +kernel
theorem dX11_placeOf_16 : decode cX11_placeOf 16 = .ok (.invokevirtual 124, 3) := by decide +kernel
theorem dX11_placeOf_19 : decode cX11_placeOf 19 = .ok (.istore_n 2, 1) := by decide +kernel
theorem dX11_placeOf_20 : decode cX11_placeOf 20 = .ok (.bipush 100, 2) := by decide +kernel
theorem dX11_placeOf_22 : decode cX11_placeOf 22 = .ok (.iload_n 2, 1) := by decide +kernel
theorem dX11_placeOf_23 : decode cX11_placeOf 23 = .ok (.imul, 1) := by decide +kernel
theorem dX11_placeOf_24 : decode cX11_placeOf 24 = .ok (.iload_n 1, 1) := by decide +kernel
theorem dX11_placeOf_25 : decode cX11_placeOf 25 = .ok (.iadd, 1) := by decide +kernel
theorem dX11_placeOf_26 : decode cX11_placeOf 26 = .ok (.aload_n 0, 1) := by decide +kernel
theorem dX11_placeOf_27 : decode cX11_placeOf 27 = .ok (.getfield 53, 3) := by decide +kernel
theorem dX11_placeOf_30 : decode cX11_placeOf 30 = .ok (.getfield 367, 3) := by decide +kernel
theorem dX11_placeOf_33 : decode cX11_placeOf 33 = .ok (.iload_n 2, 1) := by decide +kernel
theorem dX11_placeOf_34 : decode cX11_placeOf 34 = .ok (.invokevirtual 124, 3) := by decide +kernel
theorem dX11_placeOf_37 : decode cX11_placeOf 37 = .ok (.isub, 1) := by decide +kernel
theorem dX11_placeOf_38 : decode cX11_placeOf 38 = .ok (.ireturn, 1) := by decide +kernel
theorem dX11_mixLine_0 : decode cX11_mixLine 0 = .ok (.aload_n 0, 1) := by decide +kernel
theorem dX11_mixLine_1 : decode cX11_mixLine 1 = .ok (.getfield 12, 3) := by decide +kernel
theorem dX11_mixLine_4 : decode cX11_mixLine 4 = .ok (.getfield 96, 3) := by decide +kernel
theorem dX11_mixLine_7 : decode cX11_mixLine 7 = .ok (.getfield 131, 3) := by decide +kernel
theorem dX11_mixLine_10 : decode cX11_mixLine 10 = .ok (.iload_n 3, 1) := by decide +kernel
theorem dX11_mixLine_11 : decode cX11_mixLine 11 = .ok (.invokevirtual 124, 3) := by decide +kernel
theorem dX11_mixLine_14 : decode cX11_mixLine 14 = .ok (.istore 4, 2) := by decide +kernel
theorem dX11_mixLine_16 : decode cX11_mixLine 16 = .ok (.lload_n 1, 1) := by decide +kernel
theorem dX11_mixLine_17 : decode cX11_mixLine 17 = .ok (.aload_n 0, 1) := by decide +kernel
theorem dX11_mixLine_18 : decode cX11_mixLine 18 = .ok (.getfield 12, 3) := by decide +kernel
theorem dX11_mixLine_21 : decode cX11_mixLine 21 = .ok (.getfield 96, 3) := by decide +kernel
theorem dX11_mixLine_24 : decode cX11_mixLine 24 = .ok (.getfield 121, 3) := by decide +kernel
theorem dX11_mixLine_27 : decode cX11_mixLine 27 = .ok (.iload_n 3, 1) := by decide +kernel
theorem dX11_mixLine_28 : decode cX11_mixLine 28 = .ok (.invokevirtual 124, 3) := by decide +kernel
theorem dX11_mixLine_31 : decode cX11_mixLine 31 = .ok (.invokestatic 327, 3) := by decide +kernel
theorem dX11_mixLine_34 : decode cX11_mixLine 34 = .ok (.iload 4, 2) := by decide +kernel
theorem dX11_mixLine_36 : decode cX11_mixLine 36 = .ok (.invokestatic 327, 3) := by decide +kernel
theorem dX11_mixLine_39 : decode cX11_mixLine 39 = .ok (.lstore 5, 2) := by decide +kernel
theorem dX11_mixLine_41 : decode cX11_mixLine 41 = .ok (.iconst 0, 1) := by decide +kernel
theorem dX11_mixLine_42 : decode cX11_mixLine 42 = .ok (.istore 7, 2) := by decide +kernel
theorem dX11_mixLine_44 : decode cX11_mixLine 44 = .ok (.iload 7, 2) := by decide +kernel
theorem dX11_mixLine_46 : decode cX11_mixLine 46 = .ok (.iload 4, 2) := by decide +kernel
theorem dX11_mixLine_48 : decode cX11_mixLine 48 = .ok (.if_icmp .ge 29, 3) := by decide +kernel
theorem dX11_mixLine_51 : decode cX11_mixLine 51 = .ok (.lload 5, 2) := by decide +kernel
theorem dX11_mixLine_53 : decode cX11_mixLine 53 = .ok (.aload_n 0, 1) := by decide +kernel
theorem dX11_mixLine_54 : decode cX11_mixLine 54 = .ok (.getfield 12, 3) := by decide +kernel
theorem dX11_mixLine_57 : decode cX11_mixLine 57 = .ok (.getfield 96, 3) := by decide +kernel
theorem dX11_mixLine_60 : decode cX11_mixLine 60 = .ok (.iload_n 3, 1) := by decide +kernel
theorem dX11_mixLine_61 : decode cX11_mixLine 61 = .ok (.iload 7, 2) := by decide +kernel
theorem dX11_mixLine_63 : decode cX11_mixLine 63 = .ok (.invokevirtual 178, 3) := by decide +kernel
theorem dX11_mixLine_66 : decode cX11_mixLine 66 = .ok (.invokestatic 327, 3) := by decide +kernel
theorem dX11_mixLine_69 : decode cX11_mixLine 69 = .ok (.lstore 5, 2) := by decide +kernel
theorem dX11_mixLine_71 : decode cX11_mixLine 71 = .ok (.iinc 7 1, 3) := by decide +kernel
theorem dX11_mixLine_74 : decode cX11_mixLine 74 = .ok (.goto (-30), 3) := by decide +kernel
theorem dX11_mixLine_77 : decode cX11_mixLine 77 = .ok (.lload 5, 2) := by decide +kernel
theorem dX11_mixLine_79 : decode cX11_mixLine 79 = .ok (.aload_n 0, 1) := by decide +kernel
theorem dX11_mixLine_80 : decode cX11_mixLine 80 = .ok (.getfield 12, 3) := by decide +kernel
theorem dX11_mixLine_83 : decode cX11_mixLine 83 = .ok (.getfield 96, 3) := by decide +kernel
theorem dX11_mixLine_86 : decode cX11_mixLine 86 = .ok (.getfield 171, 3) := by decide +kernel
theorem dX11_mixLine_89 : decode cX11_mixLine 89 = .ok (.iload_n 3, 1) := by decide +kernel
theorem dX11_mixLine_90 : decode cX11_mixLine 90 = .ok (.invokevirtual 124, 3) := by decide +kernel
theorem dX11_mixLine_93 : decode cX11_mixLine 93 = .ok (.invokestatic 327, 3) := by decide +kernel
theorem dX11_mixLine_96 : decode cX11_mixLine 96 = .ok (.lstore 5, 2) := by decide +kernel
theorem dX11_mixLine_98 : decode cX11_mixLine 98 = .ok (.lload 5, 2) := by decide +kernel
theorem dX11_mixLine_100 : decode cX11_mixLine 100 = .ok (.aload_n 0, 1) := by decide +kernel
theorem dX11_mixLine_101 : decode cX11_mixLine 101 = .ok (.getfield 67, 3) := by decide +kernel
theorem dX11_mixLine_104 : decode cX11_mixLine 104 = .ok (.iload_n 3, 1) := by decide +kernel
theorem dX11_mixLine_105 : decode cX11_mixLine 105 = .ok (.aload_n 0, 1) := by decide +kernel
theorem dX11_mixLine_106 : decode cX11_mixLine 106 = .ok (.getfield 12, 3) := by decide +kernel
theorem dX11_mixLine_109 : decode cX11_mixLine 109 = .ok (.getfield 96, 3) := by decide +kernel
theorem dX11_mixLine_112 : decode cX11_mixLine 112 = .ok (.getfield 121, 3) := by decide +kernel
theorem dX11_mixLine_115 : decode cX11_mixLine 115 = .ok (.aload_n 0, 1) := by decide +kernel
theorem dX11_mixLine_116 : decode cX11_mixLine 116 = .ok (.getfield 12, 3) := by decide +kernel
theorem dX11_mixLine_119 : decode cX11_mixLine 119 = .ok (.getfield 141, 3) := by decide +kernel
theorem dX11_mixLine_122 : decode cX11_mixLine 122 = .ok (.aload_n 0, 1) := by decide +kernel
theorem dX11_mixLine_123 : decode cX11_mixLine 123 = .ok (.getfield 12, 3) := by decide +kernel
theorem dX11_mixLine_126 : decode cX11_mixLine 126 = .ok (.getfield 144, 3) := by decide +kernel
theorem dX11_mixLine_129 : decode cX11_mixLine 129 = .ok (.invokevirtual 147, 3) := by decide +kernel
theorem dX11_mixLine_132 : decode cX11_mixLine 132 = .ok (.invokestatic 327, 3) := by decide +kernel
theorem dX11_mixLine_135 : decode cX11_mixLine 135 = .ok (.lreturn, 1) := by decide +kernel
theorem dX11_drawLine_0 : decode cX11_drawLine 0 = .ok (.aload_n 0, 1) := by decide +kernel
theorem dX11_drawLine_1 : decode cX11_drawLine 1 = .ok (.getfield 12, 3) := by decide +kernel
theorem dX11_drawLine_4 : decode cX11_drawLine 4 = .ok (.getfield 96, 3) := by decide +kernel
theorem dX11_drawLine_7 : decode cX11_drawLine 7 = .ok (.getfield 100, 3) := by decide +kernel
theorem dX11_drawLine_10 : decode cX11_drawLine 10 = .ok (.istore_n 2, 1) := by decide +kernel
theorem dX11_drawLine_11 : decode cX11_drawLine 11 = .ok (.aload_n 0, 1) := by decide +kernel
theorem dX11_drawLine_12 : decode cX11_drawLine 12 = .ok (.getfield 12, 3) := by decide +kernel
theorem dX11_drawLine_15 : decode cX11_drawLine 15 = .ok (.getfield 96, 3) := by decide +kernel
theorem dX11_drawLine_18 : decode cX11_drawLine 18 = .ok (.iload_n 2, 1) := by decide +kernel
theorem dX11_drawLine_19 : decode cX11_drawLine 19 = .ok (.invokevirtual 110, 3) := by decide +kernel
theorem dX11_drawLine_22 : decode cX11_drawLine 22 = .ok (.iload_n 1, 1) := by decide +kernel
theorem dX11_drawLine_23 : decode cX11_drawLine 23 = .ok (.invokestatic 373, 3) := by decide +kernel
theorem dX11_drawLine_26 : decode cX11_drawLine 26 = .ok (.istore_n 3, 1) := by decide +kernel
theorem dX11_drawLine_27 : decode cX11_drawLine 27 = .ok (.aload_n 0, 1) := by decide +kernel
theorem dX11_drawLine_28 : decode cX11_drawLine 28 = .ok (.getfield 12, 3) := by decide +kernel
theorem dX11_drawLine_31 : decode cX11_drawLine 31 = .ok (.getfield 96, 3) := by decide +kernel
theorem dX11_drawLine_34 : decode cX11_drawLine 34 = .ok (.getfield 121, 3) := by decide +kernel
theorem dX11_drawLine_37 : decode cX11_drawLine 37 = .ok (.iload_n 2, 1) := by decide +kernel
theorem dX11_drawLine_38 : decode cX11_drawLine 38 = .ok (.iload_n 3, 1) := by decide +kernel
theorem dX11_drawLine_39 : decode cX11_drawLine 39 = .ok (.invokestatic 376, 3) := by decide +kernel
theorem dX11_drawLine_42 : decode cX11_drawLine 42 = .ok (.bipush 12, 2) := by decide +kernel
theorem dX11_drawLine_44 : decode cX11_drawLine 44 = .ok (.irem, 1) := by decide +kernel
theorem dX11_drawLine_45 : decode cX11_drawLine 45 = .ok (.invokevirtual 151, 3) := by decide +kernel
theorem dX11_drawLine_48 : decode cX11_drawLine 48 = .ok (.iload_n 3, 1) := by decide +kernel
theorem dX11_drawLine_49 : decode cX11_drawLine 49 = .ok (.invokestatic 373, 3) := by decide +kernel
theorem dX11_drawLine_52 : decode cX11_drawLine 52 = .ok (.istore_n 3, 1) := by decide +kernel
theorem dX11_drawLine_53 : decode cX11_drawLine 53 = .ok (.iconst 1, 1) := by decide +kernel
theorem dX11_drawLine_54 : decode cX11_drawLine 54 = .ok (.iload_n 3, 1) := by decide +kernel
theorem dX11_drawLine_55 : decode cX11_drawLine 55 = .ok (.invokestatic 376, 3) := by decide +kernel
theorem dX11_drawLine_58 : decode cX11_drawLine 58 = .ok (.iconst 3, 1) := by decide +kernel
theorem dX11_drawLine_59 : decode cX11_drawLine 59 = .ok (.irem, 1) := by decide +kernel
theorem dX11_drawLine_60 : decode cX11_drawLine 60 = .ok (.iadd, 1) := by decide +kernel
theorem dX11_drawLine_61 : decode cX11_drawLine 61 = .ok (.istore 4, 2) := by decide +kernel
theorem dX11_drawLine_63 : decode cX11_drawLine 63 = .ok (.iconst 0, 1) := by decide +kernel
theorem dX11_drawLine_64 : decode cX11_drawLine 64 = .ok (.istore 5, 2) := by decide +kernel
theorem dX11_drawLine_66 : decode cX11_drawLine 66 = .ok (.iload 5, 2) := by decide +kernel
theorem dX11_drawLine_68 : decode cX11_drawLine 68 = .ok (.iload 4, 2) := by decide +kernel
theorem dX11_drawLine_70 : decode cX11_drawLine 70 = .ok (.if_icmp .ge 81, 3) := by decide +kernel
theorem dX11_drawLine_73 : decode cX11_drawLine 73 = .ok (.iload 5, 2) := by decide +kernel
theorem dX11_drawLine_75 : decode cX11_drawLine 75 = .ok (.ifCond .le 16, 3) := by decide +kernel
theorem dX11_drawLine_78 : decode cX11_drawLine 78 = .ok (.aload_n 0, 1) := by decide +kernel
theorem dX11_drawLine_79 : decode cX11_drawLine 79 = .ok (.getfield 12, 3) := by decide +kernel
theorem dX11_drawLine_82 : decode cX11_drawLine 82 = .ok (.getfield 96, 3) := by decide +kernel
theorem dX11_drawLine_85 : decode cX11_drawLine 85 = .ok (.iload_n 2, 1) := by decide +kernel
theorem dX11_drawLine_86 : decode cX11_drawLine 86 = .ok (.bipush 32, 2) := by decide +kernel
theorem dX11_drawLine_88 : decode cX11_drawLine 88 = .ok (.invokevirtual 379, 3) := by decide +kernel
theorem dX11_drawLine_91 : decode cX11_drawLine 91 = .ok (.iload_n 3, 1) := by decide +kernel
theorem dX11_drawLine_92 : decode cX11_drawLine 92 = .ok (.invokestatic 373, 3) := by decide +kernel
theorem dX11_drawLine_95 : decode cX11_drawLine 95 = .ok (.istore_n 3, 1) := by decide +kernel
theorem dX11_drawLine_96 : decode cX11_drawLine 96 = .ok (.iload_n 3, 1) := by decide +kernel
theorem dX11_drawLine_97 : decode cX11_drawLine 97 = .ok (.invokestatic 376, 3) := by decide +kernel
theorem dX11_drawLine_100 : decode cX11_drawLine 100 = .ok (.bipush 16, 2) := by decide +kernel
theorem dX11_drawLine_102 : decode cX11_drawLine 102 = .ok (.irem, 1) := by decide +kernel
theorem dX11_drawLine_103 : decode cX11_drawLine 103 = .ok (.invokestatic 382, 3) := by decide +kernel
theorem dX11_drawLine_106 : decode cX11_drawLine 106 = .ok (.astore 6, 2) := by decide +kernel
theorem dX11_drawLine_108 : decode cX11_drawLine 108 = .ok (.iconst 0, 1) := by decide +kernel
theorem dX11_drawLine_109 : decode cX11_drawLine 109 = .ok (.istore 7, 2) := by decide +kernel
theorem dX11_drawLine_111 : decode cX11_drawLine 111 = .ok (.iload 7, 2) := by decide +kernel
theorem dX11_drawLine_113 : decode cX11_drawLine 113 = .ok (.aload 6, 2) := by decide +kernel
theorem dX11_drawLine_115 : decode cX11_drawLine 115 = .ok (.invokevirtual 386, 3) := by decide +kernel
theorem dX11_drawLine_118 : decode cX11_drawLine 118 = .ok (.if_icmp .ge 27, 3) := by decide +kernel
theorem dX11_drawLine_121 : decode cX11_drawLine 121 = .ok (.aload_n 0, 1) := by decide +kernel
theorem dX11_drawLine_122 : decode cX11_drawLine 122 = .ok (.getfield 12, 3) := by decide +kernel
theorem dX11_drawLine_125 : decode cX11_drawLine 125 = .ok (.getfield 96, 3) := by decide +kernel
theorem dX11_drawLine_128 : decode cX11_drawLine 128 = .ok (.iload_n 2, 1) := by decide +kernel
theorem dX11_drawLine_129 : decode cX11_drawLine 129 = .ok (.aload 6, 2) := by decide +kernel
theorem dX11_drawLine_131 : decode cX11_drawLine 131 = .ok (.iload 7, 2) := by decide +kernel
theorem dX11_drawLine_133 : decode cX11_drawLine 133 = .ok (.invokevirtual 391, 3) := by decide +kernel
theorem dX11_drawLine_136 : decode cX11_drawLine 136 = .ok (.invokevirtual 379, 3) := by decide +kernel
theorem dX11_drawLine_139 : decode cX11_drawLine 139 = .ok (.iinc 7 1, 3) := by decide +kernel
theorem dX11_drawLine_142 : decode cX11_drawLine 142 = .ok (.goto (-31), 3) := by decide +kernel
theorem dX11_drawLine_145 : decode cX11_drawLine 145 = .ok (.iinc 5 1, 3) := by decide +kernel
theorem dX11_drawLine_148 : decode cX11_drawLine 148 = .ok (.goto (-82), 3) := by decide +kernel
theorem dX11_drawLine_151 : decode cX11_drawLine 151 = .ok (.iload_n 3, 1) := by decide +kernel
theorem dX11_drawLine_152 : decode cX11_drawLine 152 = .ok (.ireturn, 1) := by decide +kernel
theorem dX11_nextSeed_0 : decode cX11_nextSeed 0 = .ok (.iload_n 0, 1) := by decide +kernel
theorem dX11_nextSeed_1 : decode cX11_nextSeed 1 = .ok (.ldc_w 395, 3) := by decide +kernel
theorem dX11_nextSeed_4 : decode cX11_nextSeed 4 = .ok (.imul, 1) := by decide +kernel
theorem dX11_nextSeed_5 : decode cX11_nextSeed 5 = .ok (.sipush 12345, 3) := by decide +kernel
theorem dX11_nextSeed_8 : decode cX11_nextSeed 8 = .ok (.iadd, 1) := by decide +kernel
theorem dX11_nextSeed_9 : decode cX11_nextSeed 9 = .ok (.ireturn, 1) := by decide +kernel
theorem dX11_drawnNumber_0 : decode cX11_drawnNumber 0 = .ok (.iload_n 0, 1) := by decide +kernel
theorem dX11_drawnNumber_1 : decode cX11_drawnNumber 1 = .ok (.bipush 16, 2) := by decide +kernel
theorem dX11_drawnNumber_3 : decode cX11_drawnNumber 3 = .ok (.iushr, 1) := by decide +kernel
theorem dX11_drawnNumber_4 : decode cX11_drawnNumber 4 = .ok (.sipush 32767, 3) := by decide +kernel
theorem dX11_drawnNumber_7 : decode cX11_drawnNumber 7 = .ok (.iand, 1) := by decide +kernel
theorem dX11_drawnNumber_8 : decode cX11_drawnNumber 8 = .ok (.ireturn, 1) := by decide +kernel
theorem dX11_pieceText_0 : decode cX11_pieceText 0 = .ok (.iload_n 0, 1) := by decide +kernel
theorem dX11_pieceText_1 : decode cX11_pieceText 1 = .ok (.tableswitch 135 0 14 #[75, 79, 83, 87, 91, 95, 99, 103, 107, 111, 115, 119, 123, 127, 131], 75) := by decide +kernel
theorem dX11_pieceText_76 : decode cX11_pieceText 76 = .ok (.ldc_w 396, 3) := by decide +kernel
theorem dX11_pieceText_79 : decode cX11_pieceText 79 = .ok (.areturn, 1) := by decide +kernel
theorem dX11_pieceText_80 : decode cX11_pieceText 80 = .ok (.ldc_w 398, 3) := by decide +kernel
theorem dX11_pieceText_83 : decode cX11_pieceText 83 = .ok (.areturn, 1) := by decide +kernel
theorem dX11_pieceText_84 : decode cX11_pieceText 84 = .ok (.ldc_w 400, 3) := by decide +kernel
theorem dX11_pieceText_87 : decode cX11_pieceText 87 = .ok (.areturn, 1) := by decide +kernel
theorem dX11_pieceText_88 : decode cX11_pieceText 88 = .ok (.ldc_w 402, 3) := by decide +kernel
theorem dX11_pieceText_91 : decode cX11_pieceText 91 = .ok (.areturn, 1) := by decide +kernel
theorem dX11_pieceText_92 : decode cX11_pieceText 92 = .ok (.ldc_w 404, 3) := by decide +kernel
theorem dX11_pieceText_95 : decode cX11_pieceText 95 = .ok (.areturn, 1) := by decide +kernel
theorem dX11_pieceText_96 : decode cX11_pieceText 96 = .ok (.ldc_w 406, 3) := by decide +kernel
theorem dX11_pieceText_99 : decode cX11_pieceText 99 = .ok (.areturn, 1) := by decide +kernel
theorem dX11_pieceText_100 : decode cX11_pieceText 100 = .ok (.ldc_w 408, 3) := by decide +kernel
theorem dX11_pieceText_103 : decode cX11_pieceText 103 = .ok (.areturn, 1) := by decide +kernel
theorem dX11_pieceText_104 : decode cX11_pieceText 104 = .ok (.ldc_w 410, 3) := by decide +kernel
theorem dX11_pieceText_107 : decode cX11_pieceText 107 = .ok (.areturn, 1) := by decide +kernel
theorem dX11_pieceText_108 : decode cX11_pieceText 108 = .ok (.ldc_w 412, 3) := by decide +kernel
theorem dX11_pieceText_111 : decode cX11_pieceText 111 = .ok (.areturn, 1) := by decide +kernel
theorem dX11_pieceText_112 : decode cX11_pieceText 112 = .ok (.ldc_w 414, 3) := by decide +kernel
theorem dX11_pieceText_115 : decode cX11_pieceText 115 = .ok (.areturn, 1) := by decide +kernel
theorem dX11_pieceText_116 : decode cX11_pieceText 116 = .ok (.ldc_w 416, 3) := by decide +kernel
theorem dX11_pieceText_119 : decode cX11_pieceText 119 = .ok (.areturn, 1) := by decide +kernel
theorem dX11_pieceText_120 : decode cX11_pieceText 120 = .ok (.ldc_w 418, 3) := by decide +kernel
theorem dX11_pieceText_123 : decode cX11_pieceText 123 = .ok (.areturn, 1) := by decide +kernel
theorem dX11_pieceText_124 : decode cX11_pieceText 124 = .ok (.ldc_w 420, 3) := by decide +kernel
theorem dX11_pieceText_127 : decode cX11_pieceText 127 = .ok (.areturn, 1) := by decide +kernel
theorem dX11_pieceText_128 : decode cX11_pieceText 128 = .ok (.ldc_w 422, 3) := by decide +kernel
theorem dX11_pieceText_131 : decode cX11_pieceText 131 = .ok (.areturn, 1) := by decide +kernel
theorem dX11_pieceText_132 : decode cX11_pieceText 132 = .ok (.ldc_w 424, 3) := by decide +kernel
theorem dX11_pieceText_135 : decode cX11_pieceText 135 = .ok (.areturn, 1) := by decide +kernel
theorem dX11_pieceText_136 : decode cX11_pieceText 136 = .ok (.ldc_w 426, 3) := by decide +kernel
theorem dX11_pieceText_139 : decode cX11_pieceText 139 = .ok (.areturn, 1) := by decide +kernel
