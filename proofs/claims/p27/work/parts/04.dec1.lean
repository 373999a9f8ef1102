theorem dX5_bodyOf_0 : decode cX5_bodyOf 0 = .ok (.iload_n 1, 1) := by decide +kernel
theorem dX5_bodyOf_1 : decode cX5_bodyOf 1 = .ok (.invokestatic 41, 3) := by decide +kernel
theorem dX5_bodyOf_4 : decode cX5_bodyOf 4 = .ok (.ifCond .eq 11, 3) := by decide +kernel
theorem dX5_bodyOf_7 : decode cX5_bodyOf 7 = .ok (.new 44, 3) := by decide +kernel
theorem dX5_bodyOf_10 : decode cX5_bodyOf 10 = .ok (.dup, 1) := by decide +kernel
theorem dX5_bodyOf_11 : decode cX5_bodyOf 11 = .ok (.invokespecial 46, 3) := by decide +kernel
theorem dX5_bodyOf_14 : decode cX5_bodyOf 14 = .ok (.athrow, 1) := by decide +kernel
theorem dX5_bodyOf_15 : decode cX5_bodyOf 15 = .ok (.iload_n 2, 1) := by decide +kernel
theorem dX5_bodyOf_16 : decode cX5_bodyOf 16 = .ok (.tableswitch 133 0 5 #[40, 49, 59, 69, 79, 106], 40) := by decide +kernel
theorem dX5_bodyOf_56 : decode cX5_bodyOf 56 = .ok (.aload_n 0, 1) := by decide +kernel
theorem dX5_bodyOf_57 : decode cX5_bodyOf 57 = .ok (.getfield 10, 3) := by decide +kernel
theorem dX5_bodyOf_60 : decode cX5_bodyOf 60 = .ok (.iload_n 1, 1) := by decide +kernel
theorem dX5_bodyOf_61 : decode cX5_bodyOf 61 = .ok (.invokevirtual 50, 3) := by decide +kernel
theorem dX5_bodyOf_64 : decode cX5_bodyOf 64 = .ok (.ireturn, 1) := by decide +kernel
theorem dX5_bodyOf_65 : decode cX5_bodyOf 65 = .ok (.aload_n 0, 1) := by decide +kernel
theorem dX5_bodyOf_66 : decode cX5_bodyOf 66 = .ok (.getfield 10, 3) := by decide +kernel
theorem dX5_bodyOf_69 : decode cX5_bodyOf 69 = .ok (.getfield 139, 3) := by decide +kernel
theorem dX5_bodyOf_72 : decode cX5_bodyOf 72 = .ok (.iload_n 1, 1) := by decide +kernel
theorem dX5_bodyOf_73 : decode cX5_bodyOf 73 = .ok (.iaload, 1) := by decide +kernel
theorem dX5_bodyOf_74 : decode cX5_bodyOf 74 = .ok (.ireturn, 1) := by decide +kernel
theorem dX5_bodyOf_75 : decode cX5_bodyOf 75 = .ok (.aload_n 0, 1) := by decide +kernel
theorem dX5_bodyOf_76 : decode cX5_bodyOf 76 = .ok (.getfield 10, 3) := by decide +kernel
theorem dX5_bodyOf_79 : decode cX5_bodyOf 79 = .ok (.getfield 142, 3) := by decide +kernel
theorem dX5_bodyOf_82 : decode cX5_bodyOf 82 = .ok (.iload_n 1, 1) := by decide +kernel
theorem dX5_bodyOf_83 : decode cX5_bodyOf 83 = .ok (.iaload, 1) := by decide +kernel
theorem dX5_bodyOf_84 : decode cX5_bodyOf 84 = .ok (.ireturn, 1) := by decide +kernel
theorem dX5_bodyOf_85 : decode cX5_bodyOf 85 = .ok (.aload_n 0, 1) := by decide +kernel
theorem dX5_bodyOf_86 : decode cX5_bodyOf 86 = .ok (.getfield 10, 3) := by decide +kernel
theorem dX5_bodyOf_89 : decode cX5_bodyOf 89 = .ok (.getfield 145, 3) := by decide +kernel
theorem dX5_bodyOf_92 : decode cX5_bodyOf 92 = .ok (.iload_n 1, 1) := by decide +kernel
theorem dX5_bodyOf_93 : decode cX5_bodyOf 93 = .ok (.iaload, 1) := by decide +kernel
theorem dX5_bodyOf_94 : decode cX5_bodyOf 94 = .ok (.ireturn, 1) := by decide +kernel
theorem dX5_bodyOf_95 : decode cX5_bodyOf 95 = .ok (.aload_n 0, 1) := by decide +kernel
theorem dX5_bodyOf_96 : decode cX5_bodyOf 96 = .ok (.getfield 10, 3) := by decide +kernel
theorem dX5_bodyOf_99 : decode cX5_bodyOf 99 = .ok (.getfield 142, 3) := by decide +kernel
theorem dX5_bodyOf_102 : decode cX5_bodyOf 102 = .ok (.iload_n 1, 1) := by decide +kernel
theorem dX5_bodyOf_103 : decode cX5_bodyOf 103 = .ok (.iaload, 1) := by decide +kernel
theorem dX5_bodyOf_104 : decode cX5_bodyOf 104 = .ok (.aload_n 0, 1) := by decide +kernel
theorem dX5_bodyOf_105 : decode cX5_bodyOf 105 = .ok (.getfield 33, 3) := by decide +kernel
theorem dX5_bodyOf_108 : decode cX5_bodyOf 108 = .ok (.iload_n 1, 1) := by decide +kernel
theorem dX5_bodyOf_109 : decode cX5_bodyOf 109 = .ok (.iaload, 1) := by decide +kernel
theorem dX5_bodyOf_110 : decode cX5_bodyOf 110 = .ok (.aload_n 0, 1) := by decide +kernel
theorem dX5_bodyOf_111 : decode cX5_bodyOf 111 = .ok (.getfield 10, 3) := by decide +kernel
theorem dX5_bodyOf_114 : decode cX5_bodyOf 114 = .ok (.getfield 139, 3) := by decide +kernel
theorem dX5_bodyOf_117 : decode cX5_bodyOf 117 = .ok (.iload_n 1, 1) := by decide +kernel
theorem dX5_bodyOf_118 : decode cX5_bodyOf 118 = .ok (.iaload, 1) := by decide +kernel
theorem dX5_bodyOf_119 : decode cX5_bodyOf 119 = .ok (.imul, 1) := by decide +kernel
theorem dX5_bodyOf_120 : decode cX5_bodyOf 120 = .ok (.iadd, 1) := by decide +kernel
theorem dX5_bodyOf_121 : decode cX5_bodyOf 121 = .ok (.ireturn, 1) := by decide +kernel
theorem dX5_bodyOf_122 : decode cX5_bodyOf 122 = .ok (.aload_n 0, 1) := by decide +kernel
theorem dX5_bodyOf_123 : decode cX5_bodyOf 123 = .ok (.getfield 10, 3) := by decide +kernel
theorem dX5_bodyOf_126 : decode cX5_bodyOf 126 = .ok (.getfield 145, 3) := by decide +kernel
theorem dX5_bodyOf_129 : decode cX5_bodyOf 129 = .ok (.iload_n 1, 1) := by decide +kernel
theorem dX5_bodyOf_130 : decode cX5_bodyOf 130 = .ok (.iaload, 1) := by decide +kernel
theorem dX5_bodyOf_131 : decode cX5_bodyOf 131 = .ok (.aload_n 0, 1) := by decide +kernel
theorem dX5_bodyOf_132 : decode cX5_bodyOf 132 = .ok (.getfield 33, 3) := by decide +kernel
theorem dX5_bodyOf_135 : decode cX5_bodyOf 135 = .ok (.iload_n 1, 1) := by decide +kernel
theorem dX5_bodyOf_136 : decode cX5_bodyOf 136 = .ok (.iaload, 1) := by decide +kernel
theorem dX5_bodyOf_137 : decode cX5_bodyOf 137 = .ok (.aload_n 0, 1) := by decide +kernel
theorem dX5_bodyOf_138 : decode cX5_bodyOf 138 = .ok (.getfield 10, 3) := by decide +kernel
theorem dX5_bodyOf_141 : decode cX5_bodyOf 141 = .ok (.getfield 139, 3) := by decide +kernel
theorem dX5_bodyOf_144 : decode cX5_bodyOf 144 = .ok (.iload_n 1, 1) := by decide +kernel
theorem dX5_bodyOf_145 : decode cX5_bodyOf 145 = .ok (.iaload, 1) := by decide +kernel
theorem dX5_bodyOf_146 : decode cX5_bodyOf 146 = .ok (.imul, 1) := by decide +kernel
theorem dX5_bodyOf_147 : decode cX5_bodyOf 147 = .ok (.iadd, 1) := by decide +kernel
theorem dX5_bodyOf_148 : decode cX5_bodyOf 148 = .ok (.ireturn, 1) := by decide +kernel
theorem dX5_bodyOf_149 : decode cX5_bodyOf 149 = .ok (.new 71, 3) := by decide +kernel
theorem dX5_bodyOf_152 : decode cX5_bodyOf 152 = .ok (.dup, 1) := by decide +kernel
theorem dX5_bodyOf_153 : decode cX5_bodyOf 153 = .ok (.invokespecial 73, 3) := by decide +kernel
theorem dX5_bodyOf_156 : decode cX5_bodyOf 156 = .ok (.athrow, 1) := by decide +kernel
theorem dX5_sum_0 : decode cX5_sum 0 = .ok (.iload_n 1, 1) := by decide +kernel
theorem dX5_sum_1 : decode cX5_sum 1 = .ok (.tableswitch 121 0 7 #[47, 53, 59, 71, 83, 93, 103, 112], 47) := by decide +kernel
theorem dX5_sum_48 : decode cX5_sum 48 = .ok (.aload_n 0, 1) := by decide +kernel
theorem dX5_sum_49 : decode cX5_sum 49 = .ok (.getfield 112, 3) := by decide +kernel
theorem dX5_sum_52 : decode cX5_sum 52 = .ok (.i2l, 1) := by decide +kernel
theorem dX5_sum_53 : decode cX5_sum 53 = .ok (.lreturn, 1) := by decide +kernel
theorem dX5_sum_54 : decode cX5_sum 54 = .ok (.aload_n 0, 1) := by decide +kernel
theorem dX5_sum_55 : decode cX5_sum 55 = .ok (.getfield 63, 3) := by decide +kernel
theorem dX5_sum_58 : decode cX5_sum 58 = .ok (.i2l, 1) := by decide +kernel
theorem dX5_sum_59 : decode cX5_sum 59 = .ok (.lreturn, 1) := by decide +kernel
theorem dX5_sum_60 : decode cX5_sum 60 = .ok (.aload_n 0, 1) := by decide +kernel
theorem dX5_sum_61 : decode cX5_sum 61 = .ok (.getfield 10, 3) := by decide +kernel
theorem dX5_sum_64 : decode cX5_sum 64 = .ok (.getfield 78, 3) := by decide +kernel
theorem dX5_sum_67 : decode cX5_sum 67 = .ok (.invokestatic 148, 3) := by decide +kernel
theorem dX5_sum_70 : decode cX5_sum 70 = .ok (.i2l, 1) := by decide +kernel
theorem dX5_sum_71 : decode cX5_sum 71 = .ok (.lreturn, 1) := by decide +kernel
theorem dX5_sum_72 : decode cX5_sum 72 = .ok (.aload_n 0, 1) := by decide +kernel
theorem dX5_sum_73 : decode cX5_sum 73 = .ok (.getfield 10, 3) := by decide +kernel
theorem dX5_sum_76 : decode cX5_sum 76 = .ok (.getfield 89, 3) := by decide +kernel
theorem dX5_sum_79 : decode cX5_sum 79 = .ok (.invokestatic 148, 3) := by decide +kernel
theorem dX5_sum_82 : decode cX5_sum 82 = .ok (.i2l, 1) := by decide +kernel
theorem dX5_sum_83 : decode cX5_sum 83 = .ok (.lreturn, 1) := by decide +kernel
theorem dX5_sum_84 : decode cX5_sum 84 = .ok (.aload_n 0, 1) := by decide +kernel
theorem dX5_sum_85 : decode cX5_sum 85 = .ok (.getfield 10, 3) := by decide +kernel
theorem dX5_sum_88 : decode cX5_sum 88 = .ok (.iconst 0, 1) := by decide +kernel
theorem dX5_sum_89 : decode cX5_sum 89 = .ok (.invokevirtual 152, 3) := by decide +kernel
theorem dX5_sum_92 : decode cX5_sum 92 = .ok (.i2l, 1) := by decide +kernel
theorem dX5_sum_93 : decode cX5_sum 93 = .ok (.lreturn, 1) := by decide +kernel
theorem dX5_sum_94 : decode cX5_sum 94 = .ok (.aload_n 0, 1) := by decide +kernel
theorem dX5_sum_95 : decode cX5_sum 95 = .ok (.getfield 10, 3) := by decide +kernel
theorem dX5_sum_98 : decode cX5_sum 98 = .ok (.iconst 1, 1) := by decide +kernel
theorem dX5_sum_99 : decode cX5_sum 99 = .ok (.invokevirtual 152, 3) := by decide +kernel
theorem dX5_sum_102 : decode cX5_sum 102 = .ok (.i2l, 1) := by decide +kernel
theorem dX5_sum_103 : decode cX5_sum 103 = .ok (.lreturn, 1) := by decide +kernel
theorem dX5_sum_104 : decode cX5_sum 104 = .ok (.aload_n 0, 1) := by decide +kernel
theorem dX5_sum_105 : decode cX5_sum 105 = .ok (.getfield 10, 3) := by decide +kernel
theorem dX5_sum_108 : decode cX5_sum 108 = .ok (.getfield 155, 3) := by decide +kernel
theorem dX5_sum_111 : decode cX5_sum 111 = .ok (.i2l, 1) := by decide +kernel
theorem dX5_sum_112 : decode cX5_sum 112 = .ok (.lreturn, 1) := by decide +kernel
theorem dX5_sum_113 : decode cX5_sum 113 = .ok (.aload_n 0, 1) := by decide +kernel
theorem dX5_sum_114 : decode cX5_sum 114 = .ok (.getfield 22, 3) := by decide +kernel
theorem dX5_sum_117 : decode cX5_sum 117 = .ok (.getfield 104, 3) := by decide +kernel
theorem dX5_sum_120 : decode cX5_sum 120 = .ok (.i2l, 1) := by decide +kernel
theorem dX5_sum_121 : decode cX5_sum 121 = .ok (.lreturn, 1) := by decide +kernel
theorem dX5_sum_122 : decode cX5_sum 122 = .ok (.new 71, 3) := by decide +kernel
theorem dX5_sum_125 : decode cX5_sum 125 = .ok (.dup, 1) := by decide +kernel
theorem dX5_sum_126 : decode cX5_sum 126 = .ok (.invokespecial 73, 3) := by decide +kernel
theorem dX5_sum_129 : decode cX5_sum 129 = .ok (.athrow, 1) := by decide +kernel
theorem dX5_left_0 : decode cX5_left 0 = .ok (.iload_n 1, 1) := by decide +kernel
theorem dX5_left_1 : decode cX5_left 1 = .ok (.ifCond .eq 7, 3) := by decide +kernel
theorem dX5_left_4 : decode cX5_left 4 = .ok (.iconst 1, 1) := by decide +kernel
theorem dX5_left_5 : decode cX5_left 5 = .ok (.goto 4, 3) := by decide +kernel
theorem dX5_left_8 : decode cX5_left 8 = .ok (.iconst 0, 1) := by decide +kernel
theorem dX5_left_9 : decode cX5_left 9 = .ok (.istore_n 2, 1) := by decide +kernel
theorem dX5_left_10 : decode cX5_left 10 = .ok (.iload_n 2, 1) := by decide +kernel
theorem dX5_left_11 : decode cX5_left 11 = .ok (.invokestatic 158, 3) := by decide +kernel
theorem dX5_left_14 : decode cX5_left 14 = .ok (.istore_n 3, 1) := by decide +kernel
theorem dX5_left_15 : decode cX5_left 15 = .ok (.aload_n 0, 1) := by decide +kernel
theorem dX5_left_16 : decode cX5_left 16 = .ok (.getfield 10, 3) := by decide +kernel
theorem dX5_left_19 : decode cX5_left 19 = .ok (.getfield 161, 3) := by decide +kernel
theorem dX5_left_22 : decode cX5_left 22 = .ok (.iload_n 2, 1) := by decide +kernel
theorem dX5_left_23 : decode cX5_left 23 = .ok (.iaload, 1) := by decide +kernel
theorem dX5_left_24 : decode cX5_left 24 = .ok (.aload_n 0, 1) := by decide +kernel
theorem dX5_left_25 : decode cX5_left 25 = .ok (.getfield 10, 3) := by decide +kernel
theorem dX5_left_28 : decode cX5_left 28 = .ok (.getfield 161, 3) := by decide +kernel
theorem dX5_left_31 : decode cX5_left 31 = .ok (.iload_n 3, 1) := by decide +kernel
theorem dX5_left_32 : decode cX5_left 32 = .ok (.iaload, 1) := by decide +kernel
theorem dX5_left_33 : decode cX5_left 33 = .ok (.isub, 1) := by decide +kernel
theorem dX5_left_34 : decode cX5_left 34 = .ok (.i2l, 1) := by decide +kernel
theorem dX5_left_35 : decode cX5_left 35 = .ok (.lstore 4, 2) := by decide +kernel
theorem dX5_left_37 : decode cX5_left 37 = .ok (.aload_n 0, 1) := by decide +kernel
theorem dX5_left_38 : decode cX5_left 38 = .ok (.getfield 10, 3) := by decide +kernel
theorem dX5_left_41 : decode cX5_left 41 = .ok (.getfield 164, 3) := by decide +kernel
theorem dX5_left_44 : decode cX5_left 44 = .ok (.iload_n 2, 1) := by decide +kernel
theorem dX5_left_45 : decode cX5_left 45 = .ok (.iaload, 1) := by decide +kernel
theorem dX5_left_46 : decode cX5_left 46 = .ok (.aload_n 0, 1) := by decide +kernel
theorem dX5_left_47 : decode cX5_left 47 = .ok (.getfield 10, 3) := by decide +kernel
theorem dX5_left_50 : decode cX5_left 50 = .ok (.getfield 164, 3) := by decide +kernel
theorem dX5_left_53 : decode cX5_left 53 = .ok (.iload_n 3, 1) := by decide +kernel
theorem dX5_left_54 : decode cX5_left 54 = .ok (.iaload, 1) := by decide +kernel
theorem dX5_left_55 : decode cX5_left 55 = .ok (.isub, 1) := by decide +kernel
theorem dX5_left_56 : decode cX5_left 56 = .ok (.i2l, 1) := by decide +kernel
theorem dX5_left_57 : decode cX5_left 57 = .ok (.lstore 6, 2) := by decide +kernel
theorem dX5_left_59 : decode cX5_left 59 = .ok (.aload_n 0, 1) := by decide +kernel
theorem dX5_left_60 : decode cX5_left 60 = .ok (.getfield 10, 3) := by decide +kernel
theorem dX5_left_63 : decode cX5_left 63 = .ok (.getfield 167, 3) := by decide +kernel
theorem dX5_left_66 : decode cX5_left 66 = .ok (.iload_n 2, 1) := by decide +kernel
theorem dX5_left_67 : decode cX5_left 67 = .ok (.iaload, 1) := by decide +kernel
theorem dX5_left_68 : decode cX5_left 68 = .ok (.aload_n 0, 1) := by decide +kernel
theorem dX5_left_69 : decode cX5_left 69 = .ok (.getfield 10, 3) := by decide +kernel
theorem dX5_left_72 : decode cX5_left 72 = .ok (.getfield 167, 3) := by decide +kernel
theorem dX5_left_75 : decode cX5_left 75 = .ok (.iload_n 3, 1) := by decide +kernel
theorem dX5_left_76 : decode cX5_left 76 = .ok (.iaload, 1) := by decide +kernel
theorem dX5_left_77 : decode cX5_left 77 = .ok (.isub, 1) := by decide +kernel
theorem dX5_left_78 : decode cX5_left 78 = .ok (.i2l, 1) := by decide +kernel
theorem dX5_left_79 : decode cX5_left 79 = .ok (.lstore 8, 2) := by decide +kernel
theorem dX5_left_81 : decode cX5_left 81 = .ok (.lload 4, 2) := by decide +kernel
theorem dX5_left_83 : decode cX5_left 83 = .ok (.aload_n 0, 1) := by decide +kernel
theorem dX5_left_84 : decode cX5_left 84 = .ok (.getfield 10, 3) := by decide +kernel
theorem dX5_left_87 : decode cX5_left 87 = .ok (.iload_n 2, 1) := by decide +kernel
theorem dX5_left_88 : decode cX5_left 88 = .ok (.invokevirtual 152, 3) := by decide +kernel
theorem dX5_left_91 : decode cX5_left 91 = .ok (.i2l, 1) := by decide +kernel
theorem dX5_left_92 : decode cX5_left 92 = .ok (.lsub, 1) := by decide +kernel
theorem dX5_left_93 : decode cX5_left 93 = .ok (.lload 6, 2) := by decide +kernel
theorem dX5_left_95 : decode cX5_left 95 = .ok (.lsub, 1) := by decide +kernel
theorem dX5_left_96 : decode cX5_left 96 = .ok (.ldc2_w 170, 3) := by decide +kernel
theorem dX5_left_99 : decode cX5_left 99 = .ok (.lload 8, 2) := by decide +kernel
theorem dX5_left_101 : decode cX5_left 101 = .ok (.lmul, 1) := by decide +kernel
theorem dX5_left_102 : decode cX5_left 102 = .ok (.lsub, 1) := by decide +kernel
theorem dX5_left_103 : decode cX5_left 103 = .ok (.lreturn, 1) := by decide +kernel
theorem dX5_average_0 : decode cX5_average 0 = .ok (.iload_n 2, 1) := by decide +kernel
theorem dX5_average_1 : decode cX5_average 1 = .ok (.iconst 0, 1) := by decide +kernel
theorem dX5_average_2 : decode cX5_average 2 = .ok (.iconst 2, 1) := by decide +kernel
theorem dX5_average_3 : decode cX5_average 3 = .ok (.invokestatic 74, 3) := by decide +kernel
theorem dX5_average_6 : decode cX5_average 6 = .ok (.ifCond .ne 16, 3) := by decide +kernel
theorem dX5_average_9 : decode cX5_average 9 = .ok (.iload_n 3, 1) := by decide +kernel
theorem dX5_average_10 : decode cX5_average 10 = .ok (.iload 4, 2) := by decide +kernel
theorem dX5_average_12 : decode cX5_average 12 = .ok (.iload 5, 2) := by decide +kernel
theorem dX5_average_14 : decode cX5_average 14 = .ok (.iload 6, 2) := by decide +kernel
theorem dX5_average_16 : decode cX5_average 16 = .ok (.invokestatic 172, 3) := by decide +kernel
theorem dX5_average_19 : decode cX5_average 19 = .ok (.ifCond .eq 11, 3) := by decide +kernel
theorem dX5_average_22 : decode cX5_average 22 = .ok (.new 71, 3) := by decide +kernel
theorem dX5_average_25 : decode cX5_average 25 = .ok (.dup, 1) := by decide +kernel
theorem dX5_average_26 : decode cX5_average 26 = .ok (.invokespecial 73, 3) := by decide +kernel
theorem dX5_average_29 : decode cX5_average 29 = .ok (.athrow, 1) := by decide +kernel
theorem dX5_average_30 : decode cX5_average 30 = .ok (.aload_n 0, 1) := by decide +kernel
theorem dX5_average_31 : decode cX5_average 31 = .ok (.iload_n 1, 1) := by decide +kernel
theorem dX5_average_32 : decode cX5_average 32 = .ok (.iload_n 2, 1) := by decide +kernel
theorem dX5_average_33 : decode cX5_average 33 = .ok (.new 176, 3) := by decide +kernel
theorem dX5_average_36 : decode cX5_average 36 = .ok (.dup, 1) := by decide +kernel
theorem dX5_average_37 : decode cX5_average 37 = .ok (.iload_n 3, 1) := by decide +kernel
theorem dX5_average_38 : decode cX5_average 38 = .ok (.iload 4, 2) := by decide +kernel
theorem dX5_average_40 : decode cX5_average 40 = .ok (.iload 5, 2) := by decide +kernel
theorem dX5_average_42 : decode cX5_average 42 = .ok (.iload 6, 2) := by decide +kernel
theorem dX5_average_44 : decode cX5_average 44 = .ok (.invokespecial 178, 3) := by decide +kernel
theorem dX5_average_47 : decode cX5_average 47 = .ok (.invokevirtual 181, 3) := by decide +kernel
theorem dX5_average_50 : decode cX5_average 50 = .ok (.astore 7, 2) := by decide +kernel
theorem dX5_average_52 : decode cX5_average 52 = .ok (.aload 7, 2) := by decide +kernel
theorem dX5_average_54 : decode cX5_average 54 = .ok (.getfield 185, 3) := by decide +kernel
theorem dX5_average_57 : decode cX5_average 57 = .ok (.lconst 0, 1) := by decide +kernel
theorem dX5_average_58 : decode cX5_average 58 = .ok (.lcmp, 1) := by decide +kernel
theorem dX5_average_59 : decode cX5_average 59 = .ok (.ifCond .gt 7, 3) := by decide +kernel
theorem dX5_average_62 : decode cX5_average 62 = .ok (.lconst 0, 1) := by decide +kernel
theorem dX5_average_63 : decode cX5_average 63 = .ok (.goto 20, 3) := by decide +kernel
theorem dX5_average_66 : decode cX5_average 66 = .ok (.ldc2_w 190, 3) := by decide +kernel
theorem dX5_average_69 : decode cX5_average 69 = .ok (.aload 7, 2) := by decide +kernel
theorem dX5_average_71 : decode cX5_average 71 = .ok (.getfield 192, 3) := by decide +kernel
theorem dX5_average_74 : decode cX5_average 74 = .ok (.lmul, 1) := by decide +kernel
theorem dX5_average_75 : decode cX5_average 75 = .ok (.aload 7, 2) := by decide +kernel
theorem dX5_average_77 : decode cX5_average 77 = .ok (.getfield 185, 3) := by decide +kernel
theorem dX5_average_80 : decode cX5_average 80 = .ok (.invokestatic 195, 3) := by decide +kernel
theorem dX5_average_83 : decode cX5_average 83 = .ok (.lreturn, 1) := by decide +kernel
theorem dX5_scatter_0 : decode cX5_scatter 0 = .ok (.iload_n 2, 1) := by decide +kernel
theorem dX5_scatter_1 : decode cX5_scatter 1 = .ok (.iconst 0, 1) := by decide +kernel
theorem dX5_scatter_2 : decode cX5_scatter 2 = .ok (.iconst 2, 1) := by decide +kernel
theorem dX5_scatter_3 : decode cX5_scatter 3 = .ok (.invokestatic 74, 3) := by decide +kernel
theorem dX5_scatter_6 : decode cX5_scatter 6 = .ok (.ifCond .ne 16, 3) := by decide +kernel
theorem dX5_scatter_9 : decode cX5_scatter 9 = .ok (.iload_n 3, 1) := by decide +kernel
theorem dX5_scatter_10 : decode cX5_scatter 10 = .ok (.iload 4, 2) := by decide +kernel
theorem dX5_scatter_12 : decode cX5_scatter 12 = .ok (.iload 5, 2) := by decide +kernel
theorem dX5_scatter_14 : decode cX5_scatter 14 = .ok (.iload 6, 2) := by decide +kernel
theorem dX5_scatter_16 : decode cX5_scatter 16 = .ok (.invokestatic 172, 3) := by decide +kernel
theorem dX5_scatter_19 : decode cX5_scatter 19 = .ok (.ifCond .eq 11, 3) := by decide +kernel
theorem dX5_scatter_22 : decode cX5_scatter 22 = .ok (.new 71, 3) := by decide +kernel
theorem dX5_scatter_25 : decode cX5_scatter 25 = .ok (.dup, 1) := by decide +kernel
theorem dX5_scatter_26 : decode cX5_scatter 26 = .ok (.invokespecial 73, 3) := by decide +kernel
theorem dX5_scatter_29 : decode cX5_scatter 29 = .ok (.athrow, 1) := by decide +kernel
theorem dX5_scatter_30 : decode cX5_scatter 30 = .ok (.aload_n 0, 1) := by decide +kernel
theorem dX5_scatter_31 : decode cX5_scatter 31 = .ok (.iload_n 1, 1) := by decide +kernel
theorem dX5_scatter_32 : decode cX5_scatter 32 = .ok (.iload_n 2, 1) := by decide +kernel
theorem dX5_scatter_33 : decode cX5_scatter 33 = .ok (.new 176, 3) := by decide +kernel
theorem dX5_scatter_36 : decode cX5_scatter 36 = .ok (.dup, 1) := by decide +kernel
theorem dX5_scatter_37 : decode cX5_scatter 37 = .ok (.iload_n 3, 1) := by decide +kernel
theorem dX5_scatter_38 : decode cX5_scatter 38 = .ok (.iload 4, 2) := by decide +kernel
theorem dX5_scatter_40 : decode cX5_scatter 40 = .ok (.iload 5, 2) := by decide +kernel
theorem dX5_scatter_42 : decode cX5_scatter 42 = .ok (.iload 6, 2) := by decide +kernel
theorem dX5_scatter_44 : decode cX5_scatter 44 = .ok (.invokespecial 178, 3) := by decide +kernel
theorem dX5_scatter_47 : decode cX5_scatter 47 = .ok (.invokevirtual 181, 3) := by decide +kernel
theorem dX5_scatter_50 : decode cX5_scatter 50 = .ok (.astore 7, 2) := by decide +kernel
theorem dX5_scatter_52 : decode cX5_scatter 52 = .ok (.aload 7, 2) := by decide +kernel
theorem dX5_scatter_54 : decode cX5_scatter 54 = .ok (.getfield 185, 3) := by decide +kernel
theorem dX5_scatter_57 : decode cX5_scatter 57 = .ok (.lconst 0, 1) := by decide +kernel
theorem dX5_scatter_58 : decode cX5_scatter 58 = .ok (.lcmp, 1) := by decide +kernel
theorem dX5_scatter_59 : decode cX5_scatter 59 = .ok (.ifCond .gt 5, 3) := by decide +kernel
theorem dX5_scatter_62 : decode cX5_scatter 62 = .ok (.lconst 0, 1) := by decide +kernel
theorem dX5_scatter_63 : decode cX5_scatter 63 = .ok (.lreturn, 1) := by decide +kernel
theorem dX5_scatter_64 : decode cX5_scatter 64 = .ok (.aload 7, 2) := by decide +kernel
theorem dX5_scatter_66 : decode cX5_scatter 66 = .ok (.getfield 185, 3) := by decide +kernel
theorem dX5_scatter_69 : decode cX5_scatter 69 = .ok (.aload 7, 2) := by decide +kernel
theorem dX5_scatter_71 : decode cX5_scatter 71 = .ok (.getfield 201, 3) := by decide +kernel
theorem dX5_scatter_74 : decode cX5_scatter 74 = .ok (.lmul, 1) := by decide +kernel
theorem dX5_scatter_75 : decode cX5_scatter 75 = .ok (.aload 7, 2) := by decide +kernel
theorem dX5_scatter_77 : decode cX5_scatter 77 = .ok (.getfield 192, 3) := by decide +kernel
theorem dX5_scatter_80 : decode cX5_scatter 80 = .ok (.aload 7, 2) := by decide +kernel
theorem dX5_scatter_82 : decode cX5_scatter 82 = .ok (.getfield 192, 3) := by decide +kernel
theorem dX5_scatter_85 : decode cX5_scatter 85 = .ok (.lmul, 1) := by decide +kernel
theorem dX5_scatter_86 : decode cX5_scatter 86 = .ok (.lsub, 1) := by decide +kernel
theorem dX5_scatter_87 : decode cX5_scatter 87 = .ok (.lstore 8, 2) := by decide +kernel
theorem dX5_scatter_89 : decode cX5_scatter 89 = .ok (.ldc2_w 190, 3) := by decide +kernel
theorem dX5_scatter_92 : decode cX5_scatter 92 = .ok (.lload 8, 2) := by decide +kernel
theorem dX5_scatter_94 : decode cX5_scatter 94 = .ok (.lmul, 1) := by decide +kernel
theorem dX5_scatter_95 : decode cX5_scatter 95 = .ok (.aload 7, 2) := by decide +kernel
theorem dX5_scatter_97 : decode cX5_scatter 97 = .ok (.getfield 185, 3) := by decide +kernel
theorem dX5_scatter_100 : decode cX5_scatter 100 = .ok (.aload 7, 2) := by decide +kernel
theorem dX5_scatter_102 : decode cX5_scatter 102 = .ok (.getfield 185, 3) := by decide +kernel
theorem dX5_scatter_105 : decode cX5_scatter 105 = .ok (.lmul, 1) := by decide +kernel
theorem dX5_scatter_106 : decode cX5_scatter 106 = .ok (.invokestatic 195, 3) := by decide +kernel
theorem dX5_scatter_109 : decode cX5_scatter 109 = .ok (.lreturn, 1) := by decide +kernel
theorem dX5_ahead_0 : decode cX5_ahead 0 = .ok (.iload_n 1, 1) := by decide +kernel
theorem dX5_ahead_1 : decode cX5_ahead 1 = .ok (.invokestatic 37, 3) := by decide +kernel
theorem dX5_ahead_4 : decode cX5_ahead 4 = .ok (.ifCond .eq 11, 3) := by decide +kernel
theorem dX5_ahead_7 : decode cX5_ahead 7 = .ok (.new 44, 3) := by decide +kernel
theorem dX5_ahead_10 : decode cX5_ahead 10 = .ok (.dup, 1) := by decide +kernel
theorem dX5_ahead_11 : decode cX5_ahead 11 = .ok (.invokespecial 46, 3) := by decide +kernel
theorem dX5_ahead_14 : decode cX5_ahead 14 = .ok (.athrow, 1) := by decide +kernel
theorem dX5_ahead_15 : decode cX5_ahead 15 = .ok (.iload_n 2, 1) := by decide +kernel
theorem dX5_ahead_16 : decode cX5_ahead 16 = .ok (.iconst 0, 1) := by decide +kernel
theorem dX5_ahead_17 : decode cX5_ahead 17 = .ok (.iconst 5, 1) := by decide +kernel
theorem dX5_ahead_18 : decode cX5_ahead 18 = .ok (.invokestatic 74, 3) := by decide +kernel
theorem dX5_ahead_21 : decode cX5_ahead 21 = .ok (.ifCond .eq 11, 3) := by decide +kernel
theorem dX5_ahead_24 : decode cX5_ahead 24 = .ok (.new 71, 3) := by decide +kernel
theorem dX5_ahead_27 : decode cX5_ahead 27 = .ok (.dup, 1) := by decide +kernel
theorem dX5_ahead_28 : decode cX5_ahead 28 = .ok (.invokespecial 73, 3) := by decide +kernel
theorem dX5_ahead_31 : decode cX5_ahead 31 = .ok (.athrow, 1) := by decide +kernel
theorem dX5_ahead_32 : decode cX5_ahead 32 = .ok (.aload_n 0, 1) := by decide +kernel
theorem dX5_ahead_33 : decode cX5_ahead 33 = .ok (.getfield 16, 3) := by decide +kernel
theorem dX5_ahead_36 : decode cX5_ahead 36 = .ok (.aload_n 0, 1) := by decide +kernel
theorem dX5_ahead_37 : decode cX5_ahead 37 = .ok (.getfield 10, 3) := by decide +kernel
theorem dX5_ahead_40 : decode cX5_ahead 40 = .ok (.invokevirtual 204, 3) := by decide +kernel
theorem dX5_ahead_43 : decode cX5_ahead 43 = .ok (.iconst 0, 1) := by decide +kernel
theorem dX5_ahead_44 : decode cX5_ahead 44 = .ok (.istore_n 3, 1) := by decide +kernel
theorem dX5_ahead_45 : decode cX5_ahead 45 = .ok (.iload_n 3, 1) := by decide +kernel
theorem dX5_ahead_46 : decode cX5_ahead 46 = .ok (.iload_n 2, 1) := by decide +kernel
theorem dX5_ahead_47 : decode cX5_ahead 47 = .ok (.if_icmp .ge 16, 3) := by decide +kernel
theorem dX5_ahead_50 : decode cX5_ahead 50 = .ok (.aload_n 0, 1) := by decide +kernel
theorem dX5_ahead_51 : decode cX5_ahead 51 = .ok (.getfield 16, 3) := by decide +kernel
theorem dX5_ahead_54 : decode cX5_ahead 54 = .ok (.invokevirtual 119, 3) := by decide +kernel
theorem dX5_ahead_57 : decode cX5_ahead 57 = .ok (.iinc 3 1, 3) := by decide +kernel
theorem dX5_ahead_60 : decode cX5_ahead 60 = .ok (.goto (-15), 3) := by decide +kernel
theorem dX5_ahead_63 : decode cX5_ahead 63 = .ok (.aload_n 0, 1) := by decide +kernel
theorem dX5_ahead_64 : decode cX5_ahead 64 = .ok (.getfield 16, 3) := by decide +kernel
theorem dX5_ahead_67 : decode cX5_ahead 67 = .ok (.getfield 78, 3) := by decide +kernel
theorem dX5_ahead_70 : decode cX5_ahead 70 = .ok (.iload_n 1, 1) := by decide +kernel
theorem dX5_ahead_71 : decode cX5_ahead 71 = .ok (.iaload, 1) := by decide +kernel
theorem dX5_ahead_72 : decode cX5_ahead 72 = .ok (.ireturn, 1) := by decide +kernel
theorem dX5_aheadAnew_0 : decode cX5_aheadAnew 0 = .ok (.iload_n 1, 1) := by decide +kernel
theorem dX5_aheadAnew_1 : decode cX5_aheadAnew 1 = .ok (.invokestatic 37, 3) := by decide +kernel
theorem dX5_aheadAnew_4 : decode cX5_aheadAnew 4 = .ok (.ifCond .eq 11, 3) := by decide +kernel
theorem dX5_aheadAnew_7 : decode cX5_aheadAnew 7 = .ok (.new 44, 3) := by decide +kernel
theorem dX5_aheadAnew_10 : decode cX5_aheadAnew 10 = .ok (.dup, 1) := by decide +kernel
theorem dX5_aheadAnew_11 : decode cX5_aheadAnew 11 = .ok (.invokespecial 46, 3) := by decide +kernel
theorem dX5_aheadAnew_14 : decode cX5_aheadAnew 14 = .ok (.athrow, 1) := by decide +kernel
theorem dX5_aheadAnew_15 : decode cX5_aheadAnew 15 = .ok (.iload_n 2, 1) := by decide +kernel
theorem dX5_aheadAnew_16 : decode cX5_aheadAnew 16 = .ok (.iconst 0, 1) := by decide +kernel
theorem dX5_aheadAnew_17 : decode cX5_aheadAnew 17 = .ok (.iconst 5, 1) := by decide +kernel
theorem dX5_aheadAnew_18 : decode cX5_aheadAnew 18 = .ok (.invokestatic 74, 3) := by decide +kernel
theorem dX5_aheadAnew_21 : decode cX5_aheadAnew 21 = .ok (.ifCond .eq 11, 3) := by decide +kernel
theorem dX5_aheadAnew_24 : decode cX5_aheadAnew 24 = .ok (.new 71, 3) := by decide +kernel
theorem dX5_aheadAnew_27 : decode cX5_aheadAnew 27 = .ok (.dup, 1) := by decide +kernel
theorem dX5_aheadAnew_28 : decode cX5_aheadAnew 28 = .ok (.invokespecial 73, 3) := by decide +kernel
theorem dX5_aheadAnew_31 : decode cX5_aheadAnew 31 = .ok (.athrow, 1) := by decide +kernel
theorem dX5_aheadAnew_32 : decode cX5_aheadAnew 32 = .ok (.aload_n 0, 1) := by decide +kernel
theorem dX5_aheadAnew_33 : decode cX5_aheadAnew 33 = .ok (.getfield 10, 3) := by decide +kernel
theorem dX5_aheadAnew_36 : decode cX5_aheadAnew 36 = .ok (.iload_n 1, 1) := by decide +kernel
theorem dX5_aheadAnew_37 : decode cX5_aheadAnew 37 = .ok (.iload_n 2, 1) := by decide +kernel
theorem dX5_aheadAnew_38 : decode cX5_aheadAnew 38 = .ok (.invokestatic 207, 3) := by decide +kernel
theorem dX5_aheadAnew_41 : decode cX5_aheadAnew 41 = .ok (.ireturn, 1) := by decide +kernel
theorem dX5_mixed_0 : decode cX5_mixed 0 = .ok (.iload_n 1, 1) := by decide +kernel
theorem dX5_mixed_1 : decode cX5_mixed 1 = .ok (.lookupswitch 38 #[(0, 27), (1, 33)], 27) := by decide +kernel
theorem dX5_mixed_28 : decode cX5_mixed 28 = .ok (.aload_n 0, 1) := by decide +kernel
theorem dX5_mixed_29 : decode cX5_mixed 29 = .ok (.invokevirtual 211, 3) := by decide +kernel
theorem dX5_mixed_32 : decode cX5_mixed 32 = .ok (.i2l, 1) := by decide +kernel
theorem dX5_mixed_33 : decode cX5_mixed 33 = .ok (.lreturn, 1) := by decide +kernel
theorem dX5_mixed_34 : decode cX5_mixed 34 = .ok (.aload_n 0, 1) := by decide +kernel
theorem dX5_mixed_35 : decode cX5_mixed 35 = .ok (.invokevirtual 215, 3) := by decide +kernel
theorem dX5_mixed_38 : decode cX5_mixed 38 = .ok (.lreturn, 1) := by decide +kernel
theorem dX5_mixed_39 : decode cX5_mixed 39 = .ok (.new 71, 3) := by decide +kernel
theorem dX5_mixed_42 : decode cX5_mixed 42 = .ok (.dup, 1) := by decide +kernel
theorem dX5_mixed_43 : decode cX5_mixed 43 = .ok (.invokespecial 73, 3) := by decide +kernel
theorem dX5_mixed_46 : decode cX5_mixed 46 = .ok (.athrow, 1) := by decide +kernel
theorem dX5_record_0 : decode cX5_record 0 = .ok (.iload_n 1, 1) := by decide +kernel
theorem dX5_record_1 : decode cX5_record 1 = .ok (.iconst 0, 1) := by decide +kernel
theorem dX5_record_2 : decode cX5_record 2 = .ok (.aload_n 0, 1) := by decide +kernel
theorem dX5_record_3 : decode cX5_record 3 = .ok (.getfield 29, 3) := by decide +kernel
theorem dX5_record_6 : decode cX5_record 6 = .ok (.getfield 97, 3) := by decide +kernel
theorem dX5_record_9 : decode cX5_record 9 = .ok (.iconst 1, 1) := by decide +kernel
theorem dX5_record_10 : decode cX5_record 10 = .ok (.isub, 1) := by decide +kernel
theorem dX5_record_11 : decode cX5_record 11 = .ok (.invokestatic 74, 3) := by decide +kernel
theorem dX5_record_14 : decode cX5_record 14 = .ok (.ifCond .ne 22, 3) := by decide +kernel
theorem dX5_record_17 : decode cX5_record 17 = .ok (.iload_n 2, 1) := by decide +kernel
theorem dX5_record_18 : decode cX5_record 18 = .ok (.iconst 0, 1) := by decide +kernel
theorem dX5_record_19 : decode cX5_record 19 = .ok (.aload_n 0, 1) := by decide +kernel
theorem dX5_record_20 : decode cX5_record 20 = .ok (.getfield 29, 3) := by decide +kernel
theorem dX5_record_23 : decode cX5_record 23 = .ok (.getfield 219, 3) := by decide +kernel
theorem dX5_record_26 : decode cX5_record 26 = .ok (.iload_n 1, 1) := by decide +kernel
theorem dX5_record_27 : decode cX5_record 27 = .ok (.iaload, 1) := by decide +kernel
theorem dX5_record_28 : decode cX5_record 28 = .ok (.iconst 1, 1) := by decide +kernel
theorem dX5_record_29 : decode cX5_record 29 = .ok (.isub, 1) := by decide +kernel
theorem dX5_record_30 : decode cX5_record 30 = .ok (.invokestatic 74, 3) := by decide +kernel
theorem dX5_record_33 : decode cX5_record 33 = .ok (.ifCond .eq 11, 3) := by decide +kernel
theorem dX5_record_36 : decode cX5_record 36 = .ok (.new 44, 3) := by decide +kernel
theorem dX5_record_39 : decode cX5_record 39 = .ok (.dup, 1) := by decide +kernel
theorem dX5_record_40 : decode cX5_record 40 = .ok (.invokespecial 46, 3) := by decide +kernel
theorem dX5_record_43 : decode cX5_record 43 = .ok (.athrow, 1) := by decide +kernel
theorem dX5_record_44 : decode cX5_record 44 = .ok (.aload_n 0, 1) := by decide +kernel
theorem dX5_record_45 : decode cX5_record 45 = .ok (.getfield 29, 3) := by decide +kernel
theorem dX5_record_48 : decode cX5_record 48 = .ok (.getfield 222, 3) := by decide +kernel
theorem dX5_record_51 : decode cX5_record 51 = .ok (.iload_n 1, 1) := by decide +kernel
theorem dX5_record_52 : decode cX5_record 52 = .ok (.aaload, 1) := by decide +kernel
theorem dX5_record_53 : decode cX5_record 53 = .ok (.aload_n 0, 1) := by decide +kernel
theorem dX5_record_54 : decode cX5_record 54 = .ok (.getfield 29, 3) := by decide +kernel
theorem dX5_record_57 : decode cX5_record 57 = .ok (.getfield 219, 3) := by decide +kernel
theorem dX5_record_60 : decode cX5_record 60 = .ok (.iload_n 1, 1) := by decide +kernel
theorem dX5_record_61 : decode cX5_record 61 = .ok (.iaload, 1) := by decide +kernel
theorem dX5_record_62 : decode cX5_record 62 = .ok (.iconst 1, 1) := by decide +kernel
theorem dX5_record_63 : decode cX5_record 63 = .ok (.isub, 1) := by decide +kernel
theorem dX5_record_64 : decode cX5_record 64 = .ok (.iload_n 2, 1) := by decide +kernel
theorem dX5_record_65 : decode cX5_record 65 = .ok (.isub, 1) := by decide +kernel
theorem dX5_record_66 : decode cX5_record 66 = .ok (.baload, 1) := by decide +kernel
theorem dX5_record_67 : decode cX5_record 67 = .ok (.ireturn, 1) := by decide +kernel
theorem dX5_beat_0 : decode cX5_beat 0 = .ok (.iload_n 1, 1) := by decide +kernel
theorem dX5_beat_1 : decode cX5_beat 1 = .ok (.iconst 0, 1) := by decide +kernel
theorem dX5_beat_2 : decode cX5_beat 2 = .ok (.aload_n 0, 1) := by decide +kernel
theorem dX5_beat_3 : decode cX5_beat 3 = .ok (.getfield 29, 3) := by decide +kernel
theorem dX5_beat_6 : decode cX5_beat 6 = .ok (.getfield 97, 3) := by decide +kernel
theorem dX5_beat_9 : decode cX5_beat 9 = .ok (.iconst 1, 1) := by decide +kernel
theorem dX5_beat_10 : decode cX5_beat 10 = .ok (.isub, 1) := by decide +kernel
theorem dX5_beat_11 : decode cX5_beat 11 = .ok (.invokestatic 74, 3) := by decide +kernel
theorem dX5_beat_14 : decode cX5_beat 14 = .ok (.ifCond .eq 11, 3) := by decide +kernel
theorem dX5_beat_17 : decode cX5_beat 17 = .ok (.new 44, 3) := by decide +kernel
theorem dX5_beat_20 : decode cX5_beat 20 = .ok (.dup, 1) := by decide +kernel
theorem dX5_beat_21 : decode cX5_beat 21 = .ok (.invokespecial 46, 3) := by decide +kernel
theorem dX5_beat_24 : decode cX5_beat 24 = .ok (.athrow, 1) := by decide +kernel
theorem dX5_beat_25 : decode cX5_beat 25 = .ok (.aload_n 0, 1) := by decide +kernel
theorem dX5_beat_26 : decode cX5_beat 26 = .ok (.getfield 29, 3) := by decide +kernel
theorem dX5_beat_29 : decode cX5_beat 29 = .ok (.iload_n 1, 1) := by decide +kernel
theorem dX5_beat_30 : decode cX5_beat 30 = .ok (.invokevirtual 225, 3) := by decide +kernel
theorem dX5_beat_33 : decode cX5_beat 33 = .ok (.ireturn, 1) := by decide +kernel
theorem dX5_better_0 : decode cX5_better 0 = .ok (.iload_n 1, 1) := by decide +kernel
theorem dX5_better_1 : decode cX5_better 1 = .ok (.invokestatic 41, 3) := by decide +kernel
theorem dX5_better_4 : decode cX5_better 4 = .ok (.ifCond .eq 11, 3) := by decide +kernel
theorem dX5_better_7 : decode cX5_better 7 = .ok (.new 44, 3) := by decide +kernel
theorem dX5_better_10 : decode cX5_better 10 = .ok (.dup, 1) := by decide +kernel
theorem dX5_better_11 : decode cX5_better 11 = .ok (.invokespecial 46, 3) := by decide +kernel
theorem dX5_better_14 : decode cX5_better 14 = .ok (.athrow, 1) := by decide +kernel
theorem dX5_better_15 : decode cX5_better 15 = .ok (.iload_n 2, 1) := by decide +kernel
theorem dX5_better_16 : decode cX5_better 16 = .ok (.iconst 1, 1) := by decide +kernel
theorem dX5_better_17 : decode cX5_better 17 = .ok (.bipush 10, 2) := by decide +kernel
theorem dX5_better_19 : decode cX5_better 19 = .ok (.invokestatic 74, 3) := by decide +kernel
theorem dX5_better_22 : decode cX5_better 22 = .ok (.ifCond .eq 11, 3) := by decide +kernel
theorem dX5_better_25 : decode cX5_better 25 = .ok (.new 71, 3) := by decide +kernel
theorem dX5_better_28 : decode cX5_better 28 = .ok (.dup, 1) := by decide +kernel
theorem dX5_better_29 : decode cX5_better 29 = .ok (.invokespecial 73, 3) := by decide +kernel
theorem dX5_better_32 : decode cX5_better 32 = .ok (.athrow, 1) := by decide +kernel
theorem dX5_better_33 : decode cX5_better 33 = .ok (.iconst (-1), 1) := by decide +kernel
theorem dX5_better_34 : decode cX5_better 34 = .ok (.istore_n 3, 1) := by decide +kernel
theorem dX5_better_35 : decode cX5_better 35 = .ok (.aload_n 0, 1) := by decide +kernel
theorem dX5_better_36 : decode cX5_better 36 = .ok (.iconst (-1), 1) := by decide +kernel
theorem dX5_better_37 : decode cX5_better 37 = .ok (.iload_n 1, 1) := by decide +kernel
theorem dX5_better_38 : decode cX5_better 38 = .ok (.iload_n 2, 1) := by decide +kernel
theorem dX5_better_39 : decode cX5_better 39 = .ok (.invokevirtual 228, 3) := by decide +kernel
theorem dX5_better_42 : decode cX5_better 42 = .ok (.istore 4, 2) := by decide +kernel
theorem dX5_better_44 : decode cX5_better 44 = .ok (.iconst 0, 1) := by decide +kernel
theorem dX5_better_45 : decode cX5_better 45 = .ok (.istore 5, 2) := by decide +kernel
theorem dX5_better_47 : decode cX5_better 47 = .ok (.iload 5, 2) := by decide +kernel
theorem dX5_better_49 : decode cX5_better 49 = .ok (.bipush 96, 2) := by decide +kernel
theorem dX5_better_51 : decode cX5_better 51 = .ok (.if_icmp .ge 47, 3) := by decide +kernel
theorem dX5_better_54 : decode cX5_better 54 = .ok (.aload_n 0, 1) := by decide +kernel
theorem dX5_better_55 : decode cX5_better 55 = .ok (.getfield 10, 3) := by decide +kernel
theorem dX5_better_58 : decode cX5_better 58 = .ok (.getfield 60, 3) := by decide +kernel
theorem dX5_better_61 : decode cX5_better 61 = .ok (.iload 5, 2) := by decide +kernel
theorem dX5_better_63 : decode cX5_better 63 = .ok (.iaload, 1) := by decide +kernel
theorem dX5_better_64 : decode cX5_better 64 = .ok (.iload_n 1, 1) := by decide +kernel
theorem dX5_better_65 : decode cX5_better 65 = .ok (.if_icmp .ne 27, 3) := by decide +kernel
theorem dX5_better_68 : decode cX5_better 68 = .ok (.aload_n 0, 1) := by decide +kernel
theorem dX5_better_69 : decode cX5_better 69 = .ok (.iload 5, 2) := by decide +kernel
theorem dX5_better_71 : decode cX5_better 71 = .ok (.iload_n 1, 1) := by decide +kernel
theorem dX5_better_72 : decode cX5_better 72 = .ok (.iload_n 2, 1) := by decide +kernel
theorem dX5_better_73 : decode cX5_better 73 = .ok (.invokevirtual 228, 3) := by decide +kernel
theorem dX5_better_76 : decode cX5_better 76 = .ok (.istore 6, 2) := by decide +kernel
theorem dX5_better_78 : decode cX5_better 78 = .ok (.iload 6, 2) := by decide +kernel
theorem dX5_better_80 : decode cX5_better 80 = .ok (.iload 4, 2) := by decide +kernel
theorem dX5_better_82 : decode cX5_better 82 = .ok (.if_icmp .ge 10, 3) := by decide +kernel
theorem dX5_better_85 : decode cX5_better 85 = .ok (.iload 6, 2) := by decide +kernel
theorem dX5_better_87 : decode cX5_better 87 = .ok (.istore 4, 2) := by decide +kernel
theorem dX5_better_89 : decode cX5_better 89 = .ok (.iload 5, 2) := by decide +kernel
theorem dX5_better_91 : decode cX5_better 91 = .ok (.istore_n 3, 1) := by decide +kernel
theorem dX5_better_92 : decode cX5_better 92 = .ok (.iinc 5 1, 3) := by decide +kernel
theorem dX5_better_95 : decode cX5_better 95 = .ok (.goto (-48), 3) := by decide +kernel
theorem dX5_better_98 : decode cX5_better 98 = .ok (.iload_n 3, 1) := by decide +kernel
theorem dX5_better_99 : decode cX5_better 99 = .ok (.ireturn, 1) := by decide +kernel
theorem dX5_isOutside_0 : decode cX5_isOutside 0 = .ok (.iload_n 0, 1) := by decide +kernel
theorem dX5_isOutside_1 : decode cX5_isOutside 1 = .ok (.iload_n 1, 1) := by decide +kernel
theorem dX5_isOutside_2 : decode cX5_isOutside 2 = .ok (.if_icmp .lt 8, 3) := by decide +kernel
theorem dX5_isOutside_5 : decode cX5_isOutside 5 = .ok (.iload_n 0, 1) := by decide +kernel
theorem dX5_isOutside_6 : decode cX5_isOutside 6 = .ok (.iload_n 2, 1) := by decide +kernel
theorem dX5_isOutside_7 : decode cX5_isOutside 7 = .ok (.if_icmp .le 7, 3) := by decide +kernel
theorem dX5_isOutside_10 : decode cX5_isOutside 10 = .ok (.iconst 1, 1) := by decide +kernel
theorem dX5_isOutside_11 : decode cX5_isOutside 11 = .ok (.goto 4, 3) := by decide +kernel
theorem dX5_isOutside_14 : decode cX5_isOutside 14 = .ok (.iconst 0, 1) := by decide +kernel
theorem dX5_isOutside_15 : decode cX5_isOutside 15 = .ok (.ireturn, 1) := by decide +kernel
theorem dX5_isNoCell_0 : decode cX5_isNoCell 0 = .ok (.iload_n 0, 1) := by decide +kernel
theorem dX5_isNoCell_1 : decode cX5_isNoCell 1 = .ok (.ifCond .lt 9, 3) := by decide +kernel
theorem dX5_isNoCell_4 : decode cX5_isNoCell 4 = .ok (.iload_n 0, 1) := by decide +kernel
theorem dX5_isNoCell_5 : decode cX5_isNoCell 5 = .ok (.bipush 96, 2) := by decide +kernel
theorem dX5_isNoCell_7 : decode cX5_isNoCell 7 = .ok (.if_icmp .lt 7, 3) := by decide +kernel
theorem dX5_isNoCell_10 : decode cX5_isNoCell 10 = .ok (.iconst 1, 1) := by decide +kernel
theorem dX5_isNoCell_11 : decode cX5_isNoCell 11 = .ok (.goto 4, 3) := by decide +kernel
theorem dX5_isNoCell_14 : decode cX5_isNoCell 14 = .ok (.iconst 0, 1) := by decide +kernel
theorem dX5_isNoCell_15 : decode cX5_isNoCell 15 = .ok (.ireturn, 1) := by decide +kernel
theorem dX5_isNoBody_0 : decode cX5_isNoBody 0 = .ok (.iload_n 0, 1) := by decide +kernel
theorem dX5_isNoBody_1 : decode cX5_isNoBody 1 = .ok (.ifCond .lt 8, 3) := by decide +kernel
theorem dX5_isNoBody_4 : decode cX5_isNoBody 4 = .ok (.iload_n 0, 1) := by decide +kernel
theorem dX5_isNoBody_5 : decode cX5_isNoBody 5 = .ok (.iconst 4, 1) := by decide +kernel
theorem dX5_isNoBody_6 : decode cX5_isNoBody 6 = .ok (.if_icmp .lt 7, 3) := by decide +kernel
theorem dX5_isNoBody_9 : decode cX5_isNoBody 9 = .ok (.iconst 1, 1) := by decide +kernel
theorem dX5_isNoBody_10 : decode cX5_isNoBody 10 = .ok (.goto 4, 3) := by decide +kernel
theorem dX5_isNoBody_13 : decode cX5_isNoBody 13 = .ok (.iconst 0, 1) := by decide +kernel
theorem dX5_isNoBody_14 : decode cX5_isNoBody 14 = .ok (.ireturn, 1) := by decide +kernel
theorem dX5_isNoWindow_0 : decode cX5_isNoWindow 0 = .ok (.iload_n 0, 1) := by decide +kernel
theorem dX5_isNoWindow_1 : decode cX5_isNoWindow 1 = .ok (.iconst 0, 1) := by decide +kernel
theorem dX5_isNoWindow_2 : decode cX5_isNoWindow 2 = .ok (.bipush 7, 2) := by decide +kernel
theorem dX5_isNoWindow_4 : decode cX5_isNoWindow 4 = .ok (.invokestatic 74, 3) := by decide +kernel
theorem dX5_isNoWindow_7 : decode cX5_isNoWindow 7 = .ok (.ifCond .ne 35, 3) := by decide +kernel
theorem dX5_isNoWindow_10 : decode cX5_isNoWindow 10 = .ok (.iload_n 1, 1) := by decide +kernel
theorem dX5_isNoWindow_11 : decode cX5_isNoWindow 11 = .ok (.iconst 0, 1) := by decide +kernel
theorem dX5_isNoWindow_12 : decode cX5_isNoWindow 12 = .ok (.bipush 11, 2) := by decide +kernel
theorem dX5_isNoWindow_14 : decode cX5_isNoWindow 14 = .ok (.invokestatic 74, 3) := by decide +kernel
theorem dX5_isNoWindow_17 : decode cX5_isNoWindow 17 = .ok (.ifCond .ne 25, 3) := by decide +kernel
theorem dX5_isNoWindow_20 : decode cX5_isNoWindow 20 = .ok (.iload_n 2, 1) := by decide +kernel
theorem dX5_isNoWindow_21 : decode cX5_isNoWindow 21 = .ok (.iconst 1, 1) := by decide +kernel
theorem dX5_isNoWindow_22 : decode cX5_isNoWindow 22 = .ok (.bipush 8, 2) := by decide +kernel
theorem dX5_isNoWindow_24 : decode cX5_isNoWindow 24 = .ok (.iload_n 0, 1) := by decide +kernel
theorem dX5_isNoWindow_25 : decode cX5_isNoWindow 25 = .ok (.isub, 1) := by decide +kernel
theorem dX5_isNoWindow_26 : decode cX5_isNoWindow 26 = .ok (.invokestatic 74, 3) := by decide +kernel
theorem dX5_isNoWindow_29 : decode cX5_isNoWindow 29 = .ok (.ifCond .ne 13, 3) := by decide +kernel
theorem dX5_isNoWindow_32 : decode cX5_isNoWindow 32 = .ok (.iload_n 3, 1) := by decide +kernel
theorem dX5_isNoWindow_33 : decode cX5_isNoWindow 33 = .ok (.iconst 1, 1) := by decide +kernel
theorem dX5_isNoWindow_34 : decode cX5_isNoWindow 34 = .ok (.bipush 12, 2) := by decide +kernel
theorem dX5_isNoWindow_36 : decode cX5_isNoWindow 36 = .ok (.invokestatic 74, 3) := by decide +kernel
theorem dX5_isNoWindow_39 : decode cX5_isNoWindow 39 = .ok (.ifCond .eq 7, 3) := by decide +kernel
theorem dX5_isNoWindow_42 : decode cX5_isNoWindow 42 = .ok (.iconst 1, 1) := by decide +kernel
theorem dX5_isNoWindow_43 : decode cX5_isNoWindow 43 = .ok (.goto 4, 3) := by decide +kernel
theorem dX5_isNoWindow_46 : decode cX5_isNoWindow 46 = .ok (.iconst 0, 1) := by decide +kernel
theorem dX5_isNoWindow_47 : decode cX5_isNoWindow 47 = .ok (.ireturn, 1) := by decide +kernel
theorem dX5_opposite_0 : decode cX5_opposite 0 = .ok (.iload_n 0, 1) := by decide +kernel
theorem dX5_opposite_1 : decode cX5_opposite 1 = .ok (.iconst 2, 1) := by decide +kernel
theorem dX5_opposite_2 : decode cX5_opposite 2 = .ok (.ixor, 1) := by decide +kernel
theorem dX5_opposite_3 : decode cX5_opposite 3 = .ok (.ireturn, 1) := by decide +kernel
theorem dX5_has_0 : decode cX5_has 0 = .ok (.iload_n 0, 1) := by decide +kernel
theorem dX5_has_1 : decode cX5_has 1 = .ok (.iload_n 1, 1) := by decide +kernel
theorem dX5_has_2 : decode cX5_has 2 = .ok (.ishr, 1) := by decide +kernel
theorem dX5_has_3 : decode cX5_has 3 = .ok (.iconst 1, 1) := by decide +kernel
theorem dX5_has_4 : decode cX5_has 4 = .ok (.iand, 1) := by decide +kernel
theorem dX5_has_5 : decode cX5_has 5 = .ok (.ifCond .eq 7, 3) := by decide +kernel
theorem dX5_has_8 : decode cX5_has 8 = .ok (.iconst 1, 1) := by decide +kernel
theorem dX5_has_9 : decode cX5_has 9 = .ok (.goto 4, 3) := by decide +kernel
theorem dX5_has_12 : decode cX5_has 12 = .ok (.iconst 0, 1) := by decide +kernel
theorem dX5_has_13 : decode cX5_has 13 = .ok (.ireturn, 1) := by decide +kernel
theorem dX5_turned_0 : decode cX5_turned 0 = .ok (.iload_n 0, 1) := by decide +kernel
theorem dX5_turned_1 : decode cX5_turned 1 = .ok (.iload_n 1, 1) := by decide +kernel
theorem dX5_turned_2 : decode cX5_turned 2 = .ok (.ishl, 1) := by decide +kernel
theorem dX5_turned_3 : decode cX5_turned 3 = .ok (.iload_n 0, 1) := by decide +kernel
theorem dX5_turned_4 : decode cX5_turned 4 = .ok (.iconst 4, 1) := by decide +kernel
theorem dX5_turned_5 : decode cX5_turned 5 = .ok (.iload_n 1, 1) := by decide +kernel
theorem dX5_turned_6 : decode cX5_turned 6 = .ok (.isub, 1) := by decide +kernel
theorem dX5_turned_7 : decode cX5_turned 7 = .ok (.ishr, 1) := by decide +kernel
theorem dX5_turned_8 : decode cX5_turned 8 = .ok (.ior, 1) := by decide +kernel
theorem dX5_turned_9 : decode cX5_turned 9 = .ok (.bipush 15, 2) := by decide +kernel
theorem dX5_turned_11 : decode cX5_turned 11 = .ok (.iand, 1) := by decide +kernel
theorem dX5_turned_12 : decode cX5_turned 12 = .ok (.ireturn, 1) := by decide +kernel
theorem dX5_isMeeting_0 : decode cX5_isMeeting 0 = .ok (.iload_n 0, 1) := by decide +kernel
theorem dX5_isMeeting_1 : decode cX5_isMeeting 1 = .ok (.iconst 5, 1) := by decide +kernel
theorem dX5_isMeeting_2 : decode cX5_isMeeting 2 = .ok (.if_icmp .eq 9, 3) := by decide +kernel
theorem dX5_isMeeting_5 : decode cX5_isMeeting 5 = .ok (.iload_n 0, 1) := by decide +kernel
theorem dX5_isMeeting_6 : decode cX5_isMeeting 6 = .ok (.bipush 10, 2) := by decide +kernel
theorem dX5_isMeeting_8 : decode cX5_isMeeting 8 = .ok (.if_icmp .ne 7, 3) := by decide +kernel
theorem dX5_isMeeting_11 : decode cX5_isMeeting 11 = .ok (.iconst 1, 1) := by decide +kernel
theorem dX5_isMeeting_12 : decode cX5_isMeeting 12 = .ok (.goto 4, 3) := by decide +kernel
theorem dX5_isMeeting_15 : decode cX5_isMeeting 15 = .ok (.iconst 0, 1) := by decide +kernel
theorem dX5_isMeeting_16 : decode cX5_isMeeting 16 = .ok (.ireturn, 1) := by decide +kernel
theorem dX5_beside_0 : decode cX5_beside 0 = .ok (.iload_n 1, 1) := by decide +kernel
theorem dX5_beside_1 : decode cX5_beside 1 = .ok (.tableswitch 80 0 2 #[27, 47, 62], 27) := by decide +kernel
theorem dX5_beside_28 : decode cX5_beside 28 = .ok (.iload_n 0, 1) := by decide +kernel
theorem dX5_beside_29 : decode cX5_beside 29 = .ok (.bipush 12, 2) := by decide +kernel
theorem dX5_beside_31 : decode cX5_beside 31 = .ok (.irem, 1) := by decide +kernel
theorem dX5_beside_32 : decode cX5_beside 32 = .ok (.bipush 11, 2) := by decide +kernel
theorem dX5_beside_34 : decode cX5_beside 34 = .ok (.if_icmp .ne 10, 3) := by decide +kernel
theorem dX5_beside_37 : decode cX5_beside 37 = .ok (.iload_n 0, 1) := by decide +kernel
theorem dX5_beside_38 : decode cX5_beside 38 = .ok (.bipush 11, 2) := by decide +kernel
theorem dX5_beside_40 : decode cX5_beside 40 = .ok (.isub, 1) := by decide +kernel
theorem dX5_beside_41 : decode cX5_beside 41 = .ok (.goto 6, 3) := by decide +kernel
theorem dX5_beside_44 : decode cX5_beside 44 = .ok (.iload_n 0, 1) := by decide +kernel
theorem dX5_beside_45 : decode cX5_beside 45 = .ok (.iconst 1, 1) := by decide +kernel
theorem dX5_beside_46 : decode cX5_beside 46 = .ok (.iadd, 1) := by decide +kernel
theorem dX5_beside_47 : decode cX5_beside 47 = .ok (.ireturn, 1) := by decide +kernel
theorem dX5_beside_48 : decode cX5_beside 48 = .ok (.iload_n 0, 1) := by decide +kernel
theorem dX5_beside_49 : decode cX5_beside 49 = .ok (.bipush 12, 2) := by decide +kernel
theorem dX5_beside_51 : decode cX5_beside 51 = .ok (.if_icmp .ge 7, 3) := by decide +kernel
theorem dX5_beside_54 : decode cX5_beside 54 = .ok (.iconst (-1), 1) := by decide +kernel
theorem dX5_beside_55 : decode cX5_beside 55 = .ok (.goto 7, 3) := by decide +kernel
theorem dX5_beside_58 : decode cX5_beside 58 = .ok (.iload_n 0, 1) := by decide +kernel
theorem dX5_beside_59 : decode cX5_beside 59 = .ok (.bipush 12, 2) := by decide +kernel
theorem dX5_beside_61 : decode cX5_beside 61 = .ok (.isub, 1) := by decide +kernel
theorem dX5_beside_62 : decode cX5_beside 62 = .ok (.ireturn, 1) := by decide +kernel
theorem dX5_beside_63 : decode cX5_beside 63 = .ok (.iload_n 0, 1) := by decide +kernel
theorem dX5_beside_64 : decode cX5_beside 64 = .ok (.bipush 12, 2) := by decide +kernel
theorem dX5_beside_66 : decode cX5_beside 66 = .ok (.irem, 1) := by decide +kernel
theorem dX5_beside_67 : decode cX5_beside 67 = .ok (.ifCond .ne 10, 3) := by decide +kernel
theorem dX5_beside_70 : decode cX5_beside 70 = .ok (.iload_n 0, 1) := by decide +kernel
theorem dX5_beside_71 : decode cX5_beside 71 = .ok (.bipush 11, 2) := by decide +kernel
theorem dX5_beside_73 : decode cX5_beside 73 = .ok (.iadd, 1) := by decide +kernel
theorem dX5_beside_74 : decode cX5_beside 74 = .ok (.goto 6, 3) := by decide +kernel
theorem dX5_beside_77 : decode cX5_beside 77 = .ok (.iload_n 0, 1) := by decide +kernel
theorem dX5_beside_78 : decode cX5_beside 78 = .ok (.iconst 1, 1) := by decide +kernel
theorem dX5_beside_79 : decode cX5_beside 79 = .ok (.isub, 1) := by decide +kernel
theorem dX5_beside_80 : decode cX5_beside 80 = .ok (.ireturn, 1) := by decide +kernel
theorem dX5_beside_81 : decode cX5_beside 81 = .ok (.iload_n 0, 1) := by decide +kernel
theorem dX5_beside_82 : decode cX5_beside 82 = .ok (.bipush 84, 2) := by decide +kernel
theorem dX5_beside_84 : decode cX5_beside 84 = .ok (.if_icmp .lt 7, 3) := by decide +kernel
theorem dX5_beside_87 : decode cX5_beside 87 = .ok (.iconst (-1), 1) := by decide +kernel
theorem dX5_beside_88 : decode cX5_beside 88 = .ok (.goto 7, 3) := by decide +kernel
theorem dX5_beside_91 : decode cX5_beside 91 = .ok (.iload_n 0, 1) := by decide +kernel
theorem dX5_beside_92 : decode cX5_beside 92 = .ok (.bipush 12, 2) := by decide +kernel
theorem dX5_beside_94 : decode cX5_beside 94 = .ok (.iadd, 1) := by decide +kernel
theorem dX5_beside_95 : decode cX5_beside 95 = .ok (.ireturn, 1) := by decide +kernel
theorem dX5_bitsOf_0 : decode cX5_bitsOf 0 = .ok (.iconst 0, 1) := by decide +kernel
theorem dX5_bitsOf_1 : decode cX5_bitsOf 1 = .ok (.istore_n 1, 1) := by decide +kernel
theorem dX5_bitsOf_2 : decode cX5_bitsOf 2 = .ok (.aload_n 0, 1) := by decide +kernel
theorem dX5_bitsOf_3 : decode cX5_bitsOf 3 = .ok (.astore_n 2, 1) := by decide +kernel
theorem dX5_bitsOf_4 : decode cX5_bitsOf 4 = .ok (.aload_n 2, 1) := by decide +kernel
theorem dX5_bitsOf_5 : decode cX5_bitsOf 5 = .ok (.arraylength, 1) := by decide +kernel
theorem dX5_bitsOf_6 : decode cX5_bitsOf 6 = .ok (.istore_n 3, 1) := by decide +kernel
theorem dX5_bitsOf_7 : decode cX5_bitsOf 7 = .ok (.iconst 0, 1) := by decide +kernel
theorem dX5_bitsOf_8 : decode cX5_bitsOf 8 = .ok (.istore 4, 2) := by decide +kernel
theorem dX5_bitsOf_10 : decode cX5_bitsOf 10 = .ok (.iload 4, 2) := by decide +kernel
theorem dX5_bitsOf_12 : decode cX5_bitsOf 12 = .ok (.iload_n 3, 1) := by decide +kernel
theorem dX5_bitsOf_13 : decode cX5_bitsOf 13 = .ok (.if_icmp .ge 23, 3) := by decide +kernel
theorem dX5_bitsOf_16 : decode cX5_bitsOf 16 = .ok (.aload_n 2, 1) := by decide +kernel
theorem dX5_bitsOf_17 : decode cX5_bitsOf 17 = .ok (.iload 4, 2) := by decide +kernel
theorem dX5_bitsOf_19 : decode cX5_bitsOf 19 = .ok (.iaload, 1) := by decide +kernel
theorem dX5_bitsOf_20 : decode cX5_bitsOf 20 = .ok (.istore 5, 2) := by decide +kernel
theorem dX5_bitsOf_22 : decode cX5_bitsOf 22 = .ok (.iload_n 1, 1) := by decide +kernel
theorem dX5_bitsOf_23 : decode cX5_bitsOf 23 = .ok (.iload 5, 2) := by decide +kernel
theorem dX5_bitsOf_25 : decode cX5_bitsOf 25 = .ok (.invokestatic 92, 3) := by decide +kernel
theorem dX5_bitsOf_28 : decode cX5_bitsOf 28 = .ok (.iadd, 1) := by decide +kernel
theorem dX5_bitsOf_29 : decode cX5_bitsOf 29 = .ok (.istore_n 1, 1) := by decide +kernel
theorem dX5_bitsOf_30 : decode cX5_bitsOf 30 = .ok (.iinc 4 1, 3) := by decide +kernel
theorem dX5_bitsOf_33 : decode cX5_bitsOf 33 = .ok (.goto (-23), 3) := by decide +kernel
theorem dX5_bitsOf_36 : decode cX5_bitsOf 36 = .ok (.iload_n 1, 1) := by decide +kernel
theorem dX5_bitsOf_37 : decode cX5_bitsOf 37 = .ok (.ireturn, 1) := by decide +kernel
theorem dX5_mayBeWall_0 : decode cX5_mayBeWall 0 = .ok (.aload_n 0, 1) := by decide +kernel
theorem dX5_mayBeWall_1 : decode cX5_mayBeWall 1 = .ok (.getfield 10, 3) := by decide +kernel
theorem dX5_mayBeWall_4 : decode cX5_mayBeWall 4 = .ok (.getfield 57, 3) := by decide +kernel
theorem dX5_mayBeWall_7 : decode cX5_mayBeWall 7 = .ok (.iload_n 1, 1) := by decide +kernel
theorem dX5_mayBeWall_8 : decode cX5_mayBeWall 8 = .ok (.iaload, 1) := by decide +kernel
theorem dX5_mayBeWall_9 : decode cX5_mayBeWall 9 = .ok (.ifCond .ne 41, 3) := by decide +kernel
theorem dX5_mayBeWall_12 : decode cX5_mayBeWall 12 = .ok (.aload_n 0, 1) := by decide +kernel
theorem dX5_mayBeWall_13 : decode cX5_mayBeWall 13 = .ok (.getfield 10, 3) := by decide +kernel
theorem dX5_mayBeWall_16 : decode cX5_mayBeWall 16 = .ok (.getfield 78, 3) := by decide +kernel
theorem dX5_mayBeWall_19 : decode cX5_mayBeWall 19 = .ok (.iload_n 1, 1) := by decide +kernel
theorem dX5_mayBeWall_20 : decode cX5_mayBeWall 20 = .ok (.iaload, 1) := by decide +kernel
theorem dX5_mayBeWall_21 : decode cX5_mayBeWall 21 = .ok (.ifCond .ne 29, 3) := by decide +kernel
theorem dX5_mayBeWall_24 : decode cX5_mayBeWall 24 = .ok (.aload_n 0, 1) := by decide +kernel
theorem dX5_mayBeWall_25 : decode cX5_mayBeWall 25 = .ok (.getfield 22, 3) := by decide +kernel
theorem dX5_mayBeWall_28 : decode cX5_mayBeWall 28 = .ok (.iload_n 1, 1) := by decide +kernel
theorem dX5_mayBeWall_29 : decode cX5_mayBeWall 29 = .ok (.invokevirtual 232, 3) := by decide +kernel
theorem dX5_mayBeWall_32 : decode cX5_mayBeWall 32 = .ok (.ifCond .ne 18, 3) := by decide +kernel
theorem dX5_mayBeWall_35 : decode cX5_mayBeWall 35 = .ok (.aload_n 0, 1) := by decide +kernel
theorem dX5_mayBeWall_36 : decode cX5_mayBeWall 36 = .ok (.getfield 29, 3) := by decide +kernel
theorem dX5_mayBeWall_39 : decode cX5_mayBeWall 39 = .ok (.iload_n 1, 1) := by decide +kernel
theorem dX5_mayBeWall_40 : decode cX5_mayBeWall 40 = .ok (.invokevirtual 235, 3) := by decide +kernel
theorem dX5_mayBeWall_43 : decode cX5_mayBeWall 43 = .ok (.ifCond .ne 7, 3) := by decide +kernel
theorem dX5_mayBeWall_46 : decode cX5_mayBeWall 46 = .ok (.iconst 1, 1) := by decide +kernel
theorem dX5_mayBeWall_47 : decode cX5_mayBeWall 47 = .ok (.goto 4, 3) := by decide +kernel
theorem dX5_mayBeWall_50 : decode cX5_mayBeWall 50 = .ok (.iconst 0, 1) := by decide +kernel
theorem dX5_mayBeWall_51 : decode cX5_mayBeWall 51 = .ok (.ireturn, 1) := by decide +kernel
theorem dX5_tallyOf_0 : decode cX5_tallyOf 0 = .ok (.new 186, 3) := by decide +kernel
theorem dX5_tallyOf_3 : decode cX5_tallyOf 3 = .ok (.dup, 1) := by decide +kernel
theorem dX5_tallyOf_4 : decode cX5_tallyOf 4 = .ok (.invokespecial 236, 3) := by decide +kernel
theorem dX5_tallyOf_7 : decode cX5_tallyOf 7 = .ok (.astore 4, 2) := by decide +kernel
theorem dX5_tallyOf_9 : decode cX5_tallyOf 9 = .ok (.iconst 0, 1) := by decide +kernel
theorem dX5_tallyOf_10 : decode cX5_tallyOf 10 = .ok (.istore 5, 2) := by decide +kernel
theorem dX5_tallyOf_12 : decode cX5_tallyOf 12 = .ok (.iload 5, 2) := by decide +kernel
theorem dX5_tallyOf_14 : decode cX5_tallyOf 14 = .ok (.bipush 96, 2) := by decide +kernel
theorem dX5_tallyOf_16 : decode cX5_tallyOf 16 = .ok (.if_icmp .ge 66, 3) := by decide +kernel
theorem dX5_tallyOf_19 : decode cX5_tallyOf 19 = .ok (.aload_n 0, 1) := by decide +kernel
theorem dX5_tallyOf_20 : decode cX5_tallyOf 20 = .ok (.getfield 10, 3) := by decide +kernel
theorem dX5_tallyOf_23 : decode cX5_tallyOf 23 = .ok (.getfield 57, 3) := by decide +kernel
theorem dX5_tallyOf_26 : decode cX5_tallyOf 26 = .ok (.iload 5, 2) := by decide +kernel
theorem dX5_tallyOf_28 : decode cX5_tallyOf 28 = .ok (.iaload, 1) := by decide +kernel
theorem dX5_tallyOf_29 : decode cX5_tallyOf 29 = .ok (.iconst 1, 1) := by decide +kernel
theorem dX5_tallyOf_30 : decode cX5_tallyOf 30 = .ok (.if_icmp .eq 46, 3) := by decide +kernel
theorem dX5_tallyOf_33 : decode cX5_tallyOf 33 = .ok (.aload_n 3, 1) := by decide +kernel
theorem dX5_tallyOf_34 : decode cX5_tallyOf 34 = .ok (.iload 5, 2) := by decide +kernel
theorem dX5_tallyOf_36 : decode cX5_tallyOf 36 = .ok (.invokevirtual 237, 3) := by decide +kernel
theorem dX5_tallyOf_39 : decode cX5_tallyOf 39 = .ok (.ifCond .eq 37, 3) := by decide +kernel
theorem dX5_tallyOf_42 : decode cX5_tallyOf 42 = .ok (.aload 4, 2) := by decide +kernel
theorem dX5_tallyOf_44 : decode cX5_tallyOf 44 = .ok (.iload_n 1, 1) := by decide +kernel
theorem dX5_tallyOf_45 : decode cX5_tallyOf 45 = .ok (.ifCond .eq 17, 3) := by decide +kernel
theorem dX5_tallyOf_48 : decode cX5_tallyOf 48 = .ok (.aload_n 0, 1) := by decide +kernel
theorem dX5_tallyOf_49 : decode cX5_tallyOf 49 = .ok (.getfield 22, 3) := by decide +kernel
theorem dX5_tallyOf_52 : decode cX5_tallyOf 52 = .ok (.iload 5, 2) := by decide +kernel
theorem dX5_tallyOf_54 : decode cX5_tallyOf 54 = .ok (.iload_n 2, 1) := by decide +kernel
theorem dX5_tallyOf_55 : decode cX5_tallyOf 55 = .ok (.invokevirtual 240, 3) := by decide +kernel
theorem dX5_tallyOf_58 : decode cX5_tallyOf 58 = .ok (.i2l, 1) := by decide +kernel
theorem dX5_tallyOf_59 : decode cX5_tallyOf 59 = .ok (.goto 14, 3) := by decide +kernel
theorem dX5_tallyOf_62 : decode cX5_tallyOf 62 = .ok (.aload_n 0, 1) := by decide +kernel
theorem dX5_tallyOf_63 : decode cX5_tallyOf 63 = .ok (.getfield 10, 3) := by decide +kernel
theorem dX5_tallyOf_66 : decode cX5_tallyOf 66 = .ok (.iload 5, 2) := by decide +kernel
theorem dX5_tallyOf_68 : decode cX5_tallyOf 68 = .ok (.iload_n 2, 1) := by decide +kernel
theorem dX5_tallyOf_69 : decode cX5_tallyOf 69 = .ok (.invokevirtual 244, 3) := by decide +kernel
theorem dX5_tallyOf_72 : decode cX5_tallyOf 72 = .ok (.i2l, 1) := by decide +kernel
theorem dX5_tallyOf_73 : decode cX5_tallyOf 73 = .ok (.invokevirtual 245, 3) := by decide +kernel
theorem dX5_tallyOf_76 : decode cX5_tallyOf 76 = .ok (.iinc 5 1, 3) := by decide +kernel
theorem dX5_tallyOf_79 : decode cX5_tallyOf 79 = .ok (.goto (-67), 3) := by decide +kernel
theorem dX5_tallyOf_82 : decode cX5_tallyOf 82 = .ok (.aload 4, 2) := by decide +kernel
theorem dX5_tallyOf_84 : decode cX5_tallyOf 84 = .ok (.areturn, 1) := by decide +kernel
theorem dX5_arrived_0 : decode cX5_arrived 0 = .ok (.aload_n 0, 1) := by decide +kernel
theorem dX5_arrived_1 : decode cX5_arrived 1 = .ok (.iload_n 1, 1) := by decide +kernel
theorem dX5_arrived_2 : decode cX5_arrived 2 = .ok (.invokevirtual 249, 3) := by decide +kernel
theorem dX5_arrived_5 : decode cX5_arrived 5 = .ok (.ifCond .ne 8, 3) := by decide +kernel
theorem dX5_arrived_8 : decode cX5_arrived 8 = .ok (.iload_n 2, 1) := by decide +kernel
theorem dX5_arrived_9 : decode cX5_arrived 9 = .ok (.iconst 5, 1) := by decide +kernel
theorem dX5_arrived_10 : decode cX5_arrived 10 = .ok (.if_icmp .le 5, 3) := by decide +kernel
theorem dX5_arrived_13 : decode cX5_arrived 13 = .ok (.iconst 0, 1) := by decide +kernel
theorem dX5_arrived_14 : decode cX5_arrived 14 = .ok (.ireturn, 1) := by decide +kernel
theorem dX5_arrived_15 : decode cX5_arrived 15 = .ok (.iload_n 2, 1) := by decide +kernel
theorem dX5_arrived_16 : decode cX5_arrived 16 = .ok (.ifCond .gt 10, 3) := by decide +kernel
theorem dX5_arrived_19 : decode cX5_arrived 19 = .ok (.aload_n 0, 1) := by decide +kernel
theorem dX5_arrived_20 : decode cX5_arrived 20 = .ok (.getfield 78, 3) := by decide +kernel
theorem dX5_arrived_23 : decode cX5_arrived 23 = .ok (.iload_n 1, 1) := by decide +kernel
theorem dX5_arrived_24 : decode cX5_arrived 24 = .ok (.iaload, 1) := by decide +kernel
theorem dX5_arrived_25 : decode cX5_arrived 25 = .ok (.ireturn, 1) := by decide +kernel
theorem dX5_arrived_26 : decode cX5_arrived 26 = .ok (.aload_n 0, 1) := by decide +kernel
theorem dX5_arrived_27 : decode cX5_arrived 27 = .ok (.getfield 57, 3) := by decide +kernel
theorem dX5_arrived_30 : decode cX5_arrived 30 = .ok (.iload_n 1, 1) := by decide +kernel
theorem dX5_arrived_31 : decode cX5_arrived 31 = .ok (.iaload, 1) := by decide +kernel
theorem dX5_arrived_32 : decode cX5_arrived 32 = .ok (.iconst 3, 1) := by decide +kernel
theorem dX5_arrived_33 : decode cX5_arrived 33 = .ok (.if_icmp .ne 5, 3) := by decide +kernel
theorem dX5_arrived_36 : decode cX5_arrived 36 = .ok (.iconst 0, 1) := by decide +kernel
theorem dX5_arrived_37 : decode cX5_arrived 37 = .ok (.ireturn, 1) := by decide +kernel
theorem dX5_arrived_38 : decode cX5_arrived 38 = .ok (.aload_n 0, 1) := by decide +kernel
theorem dX5_arrived_39 : decode cX5_arrived 39 = .ok (.getfield 57, 3) := by decide +kernel
theorem dX5_arrived_42 : decode cX5_arrived 42 = .ok (.iload_n 1, 1) := by decide +kernel
theorem dX5_arrived_43 : decode cX5_arrived 43 = .ok (.iaload, 1) := by decide +kernel
theorem dX5_arrived_44 : decode cX5_arrived 44 = .ok (.iconst 2, 1) := by decide +kernel
theorem dX5_arrived_45 : decode cX5_arrived 45 = .ok (.if_icmp .ne 7, 3) := by decide +kernel
theorem dX5_arrived_48 : decode cX5_arrived 48 = .ok (.iconst 1, 1) := by decide +kernel
theorem dX5_arrived_49 : decode cX5_arrived 49 = .ok (.goto 4, 3) := by decide +kernel
theorem dX5_arrived_52 : decode cX5_arrived 52 = .ok (.iconst 0, 1) := by decide +kernel
theorem dX5_arrived_53 : decode cX5_arrived 53 = .ok (.istore_n 3, 1) := by decide +kernel
theorem dX5_arrived_54 : decode cX5_arrived 54 = .ok (.iconst 0, 1) := by decide +kernel
theorem dX5_arrived_55 : decode cX5_arrived 55 = .ok (.istore 4, 2) := by decide +kernel
theorem dX5_arrived_57 : decode cX5_arrived 57 = .ok (.iload 4, 2) := by decide +kernel
theorem dX5_arrived_59 : decode cX5_arrived 59 = .ok (.iconst 4, 1) := by decide +kernel
theorem dX5_arrived_60 : decode cX5_arrived 60 = .ok (.if_icmp .ge 99, 3) := by decide +kernel
theorem dX5_arrived_63 : decode cX5_arrived 63 = .ok (.iload_n 1, 1) := by decide +kernel
theorem dX5_arrived_64 : decode cX5_arrived 64 = .ok (.iload 4, 2) := by decide +kernel
theorem dX5_arrived_66 : decode cX5_arrived 66 = .ok (.invokestatic 158, 3) := by decide +kernel
theorem dX5_arrived_69 : decode cX5_arrived 69 = .ok (.invokestatic 252, 3) := by decide +kernel
theorem dX5_arrived_72 : decode cX5_arrived 72 = .ok (.istore 5, 2) := by decide +kernel
theorem dX5_arrived_74 : decode cX5_arrived 74 = .ok (.aload_n 0, 1) := by decide +kernel
theorem dX5_arrived_75 : decode cX5_arrived 75 = .ok (.iload 5, 2) := by decide +kernel
theorem dX5_arrived_77 : decode cX5_arrived 77 = .ok (.invokevirtual 249, 3) := by decide +kernel
theorem dX5_arrived_80 : decode cX5_arrived 80 = .ok (.istore 6, 2) := by decide +kernel
theorem dX5_arrived_82 : decode cX5_arrived 82 = .ok (.aload_n 0, 1) := by decide +kernel
theorem dX5_arrived_83 : decode cX5_arrived 83 = .ok (.iload 6, 2) := by decide +kernel
theorem dX5_arrived_85 : decode cX5_arrived 85 = .ok (.ifCond .eq 7, 3) := by decide +kernel
theorem dX5_arrived_88 : decode cX5_arrived 88 = .ok (.iload_n 1, 1) := by decide +kernel
theorem dX5_arrived_89 : decode cX5_arrived 89 = .ok (.goto 5, 3) := by decide +kernel
theorem dX5_arrived_92 : decode cX5_arrived 92 = .ok (.iload 5, 2) := by decide +kernel
theorem dX5_arrived_94 : decode cX5_arrived 94 = .ok (.iload_n 2, 1) := by decide +kernel
theorem dX5_arrived_95 : decode cX5_arrived 95 = .ok (.iconst 1, 1) := by decide +kernel
theorem dX5_arrived_96 : decode cX5_arrived 96 = .ok (.isub, 1) := by decide +kernel
theorem dX5_arrived_97 : decode cX5_arrived 97 = .ok (.invokestatic 207, 3) := by decide +kernel
theorem dX5_arrived_100 : decode cX5_arrived 100 = .ok (.istore 7, 2) := by decide +kernel
theorem dX5_arrived_102 : decode cX5_arrived 102 = .ok (.iload 7, 2) := by decide +kernel
theorem dX5_arrived_104 : decode cX5_arrived 104 = .ok (.invokestatic 255, 3) := by decide +kernel
theorem dX5_arrived_107 : decode cX5_arrived 107 = .ok (.ifCond .eq 12, 3) := by decide +kernel
theorem dX5_arrived_110 : decode cX5_arrived 110 = .ok (.iload 7, 2) := by decide +kernel
theorem dX5_arrived_112 : decode cX5_arrived 112 = .ok (.iconst 1, 1) := by decide +kernel
theorem dX5_arrived_113 : decode cX5_arrived 113 = .ok (.invokestatic 258, 3) := by decide +kernel
theorem dX5_arrived_116 : decode cX5_arrived 116 = .ok (.goto 5, 3) := by decide +kernel
theorem dX5_arrived_119 : decode cX5_arrived 119 = .ok (.iload 7, 2) := by decide +kernel
theorem dX5_arrived_121 : decode cX5_arrived 121 = .ok (.istore 8, 2) := by decide +kernel
theorem dX5_arrived_123 : decode cX5_arrived 123 = .ok (.iload 8, 2) := by decide +kernel
theorem dX5_arrived_125 : decode cX5_arrived 125 = .ok (.iload 6, 2) := by decide +kernel
theorem dX5_arrived_127 : decode cX5_arrived 127 = .ok (.ifCond .eq 11, 3) := by decide +kernel
theorem dX5_arrived_130 : decode cX5_arrived 130 = .ok (.iload 4, 2) := by decide +kernel
theorem dX5_arrived_132 : decode cX5_arrived 132 = .ok (.invokestatic 158, 3) := by decide +kernel
theorem dX5_arrived_135 : decode cX5_arrived 135 = .ok (.goto 5, 3) := by decide +kernel
theorem dX5_arrived_138 : decode cX5_arrived 138 = .ok (.iload 4, 2) := by decide +kernel
theorem dX5_arrived_140 : decode cX5_arrived 140 = .ok (.invokestatic 81, 3) := by decide +kernel
theorem dX5_arrived_143 : decode cX5_arrived 143 = .ok (.ifCond .eq 10, 3) := by decide +kernel
theorem dX5_arrived_146 : decode cX5_arrived 146 = .ok (.iload_n 3, 1) := by decide +kernel
theorem dX5_arrived_147 : decode cX5_arrived 147 = .ok (.iconst 1, 1) := by decide +kernel
theorem dX5_arrived_148 : decode cX5_arrived 148 = .ok (.iload 4, 2) := by decide +kernel
theorem dX5_arrived_150 : decode cX5_arrived 150 = .ok (.ishl, 1) := by decide +kernel
theorem dX5_arrived_151 : decode cX5_arrived 151 = .ok (.ior, 1) := by decide +kernel
theorem dX5_arrived_152 : decode cX5_arrived 152 = .ok (.istore_n 3, 1) := by decide +kernel
theorem dX5_arrived_153 : decode cX5_arrived 153 = .ok (.iinc 4 1, 3) := by decide +kernel
theorem dX5_arrived_156 : decode cX5_arrived 156 = .ok (.goto (-99), 3) := by decide +kernel
theorem dX5_arrived_159 : decode cX5_arrived 159 = .ok (.iload_n 3, 1) := by decide +kernel
theorem dX5_arrived_160 : decode cX5_arrived 160 = .ok (.ireturn, 1) := by decide +kernel
theorem dX5_edgesOfInk_0 : decode cX5_edgesOfInk 0 = .ok (.iconst 0, 1) := by decide +kernel
theorem dX5_edgesOfInk_1 : decode cX5_edgesOfInk 1 = .ok (.istore_n 1, 1) := by decide +kernel
theorem dX5_edgesOfInk_2 : decode cX5_edgesOfInk 2 = .ok (.iconst 0, 1) := by decide +kernel
theorem dX5_edgesOfInk_3 : decode cX5_edgesOfInk 3 = .ok (.istore_n 2, 1) := by decide +kernel
theorem dX5_edgesOfInk_4 : decode cX5_edgesOfInk 4 = .ok (.iload_n 2, 1) := by decide +kernel
theorem dX5_edgesOfInk_5 : decode cX5_edgesOfInk 5 = .ok (.bipush 96, 2) := by decide +kernel
theorem dX5_edgesOfInk_7 : decode cX5_edgesOfInk 7 = .ok (.if_icmp .ge 51, 3) := by decide +kernel
theorem dX5_edgesOfInk_10 : decode cX5_edgesOfInk 10 = .ok (.iload_n 1, 1) := by decide +kernel
theorem dX5_edgesOfInk_11 : decode cX5_edgesOfInk 11 = .ok (.aload_n 0, 1) := by decide +kernel
theorem dX5_edgesOfInk_12 : decode cX5_edgesOfInk 12 = .ok (.iload_n 2, 1) := by decide +kernel
theorem dX5_edgesOfInk_13 : decode cX5_edgesOfInk 13 = .ok (.iload_n 2, 1) := by decide +kernel
theorem dX5_edgesOfInk_14 : decode cX5_edgesOfInk 14 = .ok (.iconst 0, 1) := by decide +kernel
theorem dX5_edgesOfInk_15 : decode cX5_edgesOfInk 15 = .ok (.invokestatic 252, 3) := by decide +kernel
theorem dX5_edgesOfInk_18 : decode cX5_edgesOfInk 18 = .ok (.invokevirtual 261, 3) := by decide +kernel
theorem dX5_edgesOfInk_21 : decode cX5_edgesOfInk 21 = .ok (.ifCond .eq 7, 3) := by decide +kernel
theorem dX5_edgesOfInk_24 : decode cX5_edgesOfInk 24 = .ok (.iconst 1, 1) := by decide +kernel
theorem dX5_edgesOfInk_25 : decode cX5_edgesOfInk 25 = .ok (.goto 4, 3) := by decide +kernel
theorem dX5_edgesOfInk_28 : decode cX5_edgesOfInk 28 = .ok (.iconst 0, 1) := by decide +kernel
theorem dX5_edgesOfInk_29 : decode cX5_edgesOfInk 29 = .ok (.iadd, 1) := by decide +kernel
theorem dX5_edgesOfInk_30 : decode cX5_edgesOfInk 30 = .ok (.istore_n 1, 1) := by decide +kernel
theorem dX5_edgesOfInk_31 : decode cX5_edgesOfInk 31 = .ok (.iload_n 1, 1) := by decide +kernel
theorem dX5_edgesOfInk_32 : decode cX5_edgesOfInk 32 = .ok (.aload_n 0, 1) := by decide +kernel
theorem dX5_edgesOfInk_33 : decode cX5_edgesOfInk 33 = .ok (.iload_n 2, 1) := by decide +kernel
theorem dX5_edgesOfInk_34 : decode cX5_edgesOfInk 34 = .ok (.iload_n 2, 1) := by decide +kernel
theorem dX5_edgesOfInk_35 : decode cX5_edgesOfInk 35 = .ok (.iconst 3, 1) := by decide +kernel
theorem dX5_edgesOfInk_36 : decode cX5_edgesOfInk 36 = .ok (.invokestatic 252, 3) := by decide +kernel
theorem dX5_edgesOfInk_39 : decode cX5_edgesOfInk 39 = .ok (.invokevirtual 261, 3) := by decide +kernel
theorem dX5_edgesOfInk_42 : decode cX5_edgesOfInk 42 = .ok (.ifCond .eq 7, 3) := by decide +kernel
theorem dX5_edgesOfInk_45 : decode cX5_edgesOfInk 45 = .ok (.iconst 1, 1) := by decide +kernel
theorem dX5_edgesOfInk_46 : decode cX5_edgesOfInk 46 = .ok (.goto 4, 3) := by decide +kernel
theorem dX5_edgesOfInk_49 : decode cX5_edgesOfInk 49 = .ok (.iconst 0, 1) := by decide +kernel
theorem dX5_edgesOfInk_50 : decode cX5_edgesOfInk 50 = .ok (.iadd, 1) := by decide +kernel
theorem dX5_edgesOfInk_51 : decode cX5_edgesOfInk 51 = .ok (.istore_n 1, 1) := by decide +kernel
theorem dX5_edgesOfInk_52 : decode cX5_edgesOfInk 52 = .ok (.iinc 2 1, 3) := by decide +kernel
theorem dX5_edgesOfInk_55 : decode cX5_edgesOfInk 55 = .ok (.goto (-51), 3) := by decide +kernel
theorem dX5_edgesOfInk_58 : decode cX5_edgesOfInk 58 = .ok (.iload_n 1, 1) := by decide +kernel
theorem dX5_edgesOfInk_59 : decode cX5_edgesOfInk 59 = .ok (.ireturn, 1) := by decide +kernel
theorem dX5_isEdgeOfInk_0 : decode cX5_isEdgeOfInk 0 = .ok (.iload_n 1, 1) := by decide +kernel
theorem dX5_isEdgeOfInk_1 : decode cX5_isEdgeOfInk 1 = .ok (.invokestatic 37, 3) := by decide +kernel
theorem dX5_isEdgeOfInk_4 : decode cX5_isEdgeOfInk 4 = .ok (.ifCond .ne 10, 3) := by decide +kernel
theorem dX5_isEdgeOfInk_7 : decode cX5_isEdgeOfInk 7 = .ok (.iload_n 2, 1) := by decide +kernel
theorem dX5_isEdgeOfInk_8 : decode cX5_isEdgeOfInk 8 = .ok (.invokestatic 37, 3) := by decide +kernel
theorem dX5_isEdgeOfInk_11 : decode cX5_isEdgeOfInk 11 = .ok (.ifCond .eq 5, 3) := by decide +kernel
theorem dX5_isEdgeOfInk_14 : decode cX5_isEdgeOfInk 14 = .ok (.iconst 0, 1) := by decide +kernel
theorem dX5_isEdgeOfInk_15 : decode cX5_isEdgeOfInk 15 = .ok (.ireturn, 1) := by decide +kernel
theorem dX5_isEdgeOfInk_16 : decode cX5_isEdgeOfInk 16 = .ok (.aload_n 0, 1) := by decide +kernel
theorem dX5_isEdgeOfInk_17 : decode cX5_isEdgeOfInk 17 = .ok (.getfield 10, 3) := by decide +kernel
theorem dX5_isEdgeOfInk_20 : decode cX5_isEdgeOfInk 20 = .ok (.iload_n 1, 1) := by decide +kernel
theorem dX5_isEdgeOfInk_21 : decode cX5_isEdgeOfInk 21 = .ok (.invokevirtual 264, 3) := by decide +kernel
theorem dX5_isEdgeOfInk_24 : decode cX5_isEdgeOfInk 24 = .ok (.ifCond .eq 14, 3) := by decide +kernel
theorem dX5_isEdgeOfInk_27 : decode cX5_isEdgeOfInk 27 = .ok (.aload_n 0, 1) := by decide +kernel
theorem dX5_isEdgeOfInk_28 : decode cX5_isEdgeOfInk 28 = .ok (.getfield 10, 3) := by decide +kernel
theorem dX5_isEdgeOfInk_31 : decode cX5_isEdgeOfInk 31 = .ok (.iload_n 2, 1) := by decide +kernel
theorem dX5_isEdgeOfInk_32 : decode cX5_isEdgeOfInk 32 = .ok (.invokevirtual 267, 3) := by decide +kernel
theorem dX5_isEdgeOfInk_35 : decode cX5_isEdgeOfInk 35 = .ok (.ifCond .ne 25, 3) := by decide +kernel
theorem dX5_isEdgeOfInk_38 : decode cX5_isEdgeOfInk 38 = .ok (.aload_n 0, 1) := by decide +kernel
theorem dX5_isEdgeOfInk_39 : decode cX5_isEdgeOfInk 39 = .ok (.getfield 10, 3) := by decide +kernel
theorem dX5_isEdgeOfInk_42 : decode cX5_isEdgeOfInk 42 = .ok (.iload_n 1, 1) := by decide +kernel
theorem dX5_isEdgeOfInk_43 : decode cX5_isEdgeOfInk 43 = .ok (.invokevirtual 267, 3) := by decide +kernel
theorem dX5_isEdgeOfInk_46 : decode cX5_isEdgeOfInk 46 = .ok (.ifCond .eq 18, 3) := by decide +kernel
theorem dX5_isEdgeOfInk_49 : decode cX5_isEdgeOfInk 49 = .ok (.aload_n 0, 1) := by decide +kernel
theorem dX5_isEdgeOfInk_50 : decode cX5_isEdgeOfInk 50 = .ok (.getfield 10, 3) := by decide +kernel
theorem dX5_isEdgeOfInk_53 : decode cX5_isEdgeOfInk 53 = .ok (.iload_n 2, 1) := by decide +kernel
theorem dX5_isEdgeOfInk_54 : decode cX5_isEdgeOfInk 54 = .ok (.invokevirtual 264, 3) := by decide +kernel
theorem dX5_isEdgeOfInk_57 : decode cX5_isEdgeOfInk 57 = .ok (.ifCond .eq 7, 3) := by decide +kernel
theorem dX5_isEdgeOfInk_60 : decode cX5_isEdgeOfInk 60 = .ok (.iconst 1, 1) := by decide +kernel
theorem dX5_isEdgeOfInk_61 : decode cX5_isEdgeOfInk 61 = .ok (.goto 4, 3) := by decide +kernel
theorem dX5_isEdgeOfInk_64 : decode cX5_isEdgeOfInk 64 = .ok (.iconst 0, 1) := by decide +kernel
theorem dX5_isEdgeOfInk_65 : decode cX5_isEdgeOfInk 65 = .ok (.ireturn, 1) := by decide +kernel
theorem dX5_unevenInk_0 : decode cX5_unevenInk 0 = .ok (.aload_n 0, 1) := by decide +kernel
theorem dX5_unevenInk_1 : decode cX5_unevenInk 1 = .ok (.getfield 10, 3) := by decide +kernel
theorem dX5_unevenInk_4 : decode cX5_unevenInk 4 = .ok (.getfield 78, 3) := by decide +kernel
theorem dX5_unevenInk_7 : decode cX5_unevenInk 7 = .ok (.invokestatic 148, 3) := by decide +kernel
theorem dX5_unevenInk_10 : decode cX5_unevenInk 10 = .ok (.i2l, 1) := by decide +kernel
theorem dX5_unevenInk_11 : decode cX5_unevenInk 11 = .ok (.lstore_n 1, 1) := by decide +kernel
theorem dX5_unevenInk_12 : decode cX5_unevenInk 12 = .ok (.aload_n 0, 1) := by decide +kernel
theorem dX5_unevenInk_13 : decode cX5_unevenInk 13 = .ok (.getfield 10, 3) := by decide +kernel
theorem dX5_unevenInk_16 : decode cX5_unevenInk 16 = .ok (.getfield 89, 3) := by decide +kernel
theorem dX5_unevenInk_19 : decode cX5_unevenInk 19 = .ok (.invokestatic 148, 3) := by decide +kernel
theorem dX5_unevenInk_22 : decode cX5_unevenInk 22 = .ok (.i2l, 1) := by decide +kernel
theorem dX5_unevenInk_23 : decode cX5_unevenInk 23 = .ok (.lstore_n 3, 1) := by decide +kernel
theorem dX5_unevenInk_24 : decode cX5_unevenInk 24 = .ok (.lconst 0, 1) := by decide +kernel
theorem dX5_unevenInk_25 : decode cX5_unevenInk 25 = .ok (.lstore 5, 2) := by decide +kernel
theorem dX5_unevenInk_27 : decode cX5_unevenInk 27 = .ok (.iconst 0, 1) := by decide +kernel
theorem dX5_unevenInk_28 : decode cX5_unevenInk 28 = .ok (.istore 7, 2) := by decide +kernel
theorem dX5_unevenInk_30 : decode cX5_unevenInk 30 = .ok (.iload 7, 2) := by decide +kernel
theorem dX5_unevenInk_32 : decode cX5_unevenInk 32 = .ok (.bipush 8, 2) := by decide +kernel
theorem dX5_unevenInk_34 : decode cX5_unevenInk 34 = .ok (.if_icmp .ge 87, 3) := by decide +kernel
theorem dX5_unevenInk_37 : decode cX5_unevenInk 37 = .ok (.iconst 0, 1) := by decide +kernel
theorem dX5_unevenInk_38 : decode cX5_unevenInk 38 = .ok (.istore 8, 2) := by decide +kernel
theorem dX5_unevenInk_40 : decode cX5_unevenInk 40 = .ok (.iload 8, 2) := by decide +kernel
theorem dX5_unevenInk_42 : decode cX5_unevenInk 42 = .ok (.bipush 12, 2) := by decide +kernel
theorem dX5_unevenInk_44 : decode cX5_unevenInk 44 = .ok (.if_icmp .ge 71, 3) := by decide +kernel
theorem dX5_unevenInk_47 : decode cX5_unevenInk 47 = .ok (.new 176, 3) := by decide +kernel
theorem dX5_unevenInk_50 : decode cX5_unevenInk 50 = .ok (.dup, 1) := by decide +kernel
theorem dX5_unevenInk_51 : decode cX5_unevenInk 51 = .ok (.iload 7, 2) := by decide +kernel
theorem dX5_unevenInk_53 : decode cX5_unevenInk 53 = .ok (.iload 8, 2) := by decide +kernel
theorem dX5_unevenInk_55 : decode cX5_unevenInk 55 = .ok (.iconst 2, 1) := by decide +kernel
theorem dX5_unevenInk_56 : decode cX5_unevenInk 56 = .ok (.iconst 2, 1) := by decide +kernel
theorem dX5_unevenInk_57 : decode cX5_unevenInk 57 = .ok (.invokespecial 178, 3) := by decide +kernel
theorem dX5_unevenInk_60 : decode cX5_unevenInk 60 = .ok (.astore 9, 2) := by decide +kernel
theorem dX5_unevenInk_62 : decode cX5_unevenInk 62 = .ok (.aload 9, 2) := by decide +kernel
theorem dX5_unevenInk_64 : decode cX5_unevenInk 64 = .ok (.aload_n 0, 1) := by decide +kernel
theorem dX5_unevenInk_65 : decode cX5_unevenInk 65 = .ok (.getfield 10, 3) := by decide +kernel
theorem dX5_unevenInk_68 : decode cX5_unevenInk 68 = .ok (.getfield 89, 3) := by decide +kernel
theorem dX5_unevenInk_71 : decode cX5_unevenInk 71 = .ok (.invokestatic 270, 3) := by decide +kernel
theorem dX5_unevenInk_74 : decode cX5_unevenInk 74 = .ok (.i2l, 1) := by decide +kernel
theorem dX5_unevenInk_75 : decode cX5_unevenInk 75 = .ok (.lstore 10, 2) := by decide +kernel
theorem dX5_unevenInk_77 : decode cX5_unevenInk 77 = .ok (.aload 9, 2) := by decide +kernel
theorem dX5_unevenInk_79 : decode cX5_unevenInk 79 = .ok (.aload_n 0, 1) := by decide +kernel
theorem dX5_unevenInk_80 : decode cX5_unevenInk 80 = .ok (.getfield 10, 3) := by decide +kernel
theorem dX5_unevenInk_83 : decode cX5_unevenInk 83 = .ok (.getfield 78, 3) := by decide +kernel
theorem dX5_unevenInk_86 : decode cX5_unevenInk 86 = .ok (.invokestatic 270, 3) := by decide +kernel
theorem dX5_unevenInk_89 : decode cX5_unevenInk 89 = .ok (.i2l, 1) := by decide +kernel
theorem dX5_unevenInk_90 : decode cX5_unevenInk 90 = .ok (.lstore 12, 2) := by decide +kernel
theorem dX5_unevenInk_92 : decode cX5_unevenInk 92 = .ok (.lload 5, 2) := by decide +kernel
theorem dX5_unevenInk_94 : decode cX5_unevenInk 94 = .ok (.lload 10, 2) := by decide +kernel
theorem dX5_unevenInk_96 : decode cX5_unevenInk 96 = .ok (.lload_n 1, 1) := by decide +kernel
theorem dX5_unevenInk_97 : decode cX5_unevenInk 97 = .ok (.lmul, 1) := by decide +kernel
theorem dX5_unevenInk_98 : decode cX5_unevenInk 98 = .ok (.lload_n 3, 1) := by decide +kernel
theorem dX5_unevenInk_99 : decode cX5_unevenInk 99 = .ok (.lload 12, 2) := by decide +kernel
theorem dX5_unevenInk_101 : decode cX5_unevenInk 101 = .ok (.lmul, 1) := by decide +kernel
theorem dX5_unevenInk_102 : decode cX5_unevenInk 102 = .ok (.lsub, 1) := by decide +kernel
theorem dX5_unevenInk_103 : decode cX5_unevenInk 103 = .ok (.invokestatic 274, 3) := by decide +kernel
theorem dX5_unevenInk_106 : decode cX5_unevenInk 106 = .ok (.ladd, 1) := by decide +kernel
theorem dX5_unevenInk_107 : decode cX5_unevenInk 107 = .ok (.lstore 5, 2) := by decide +kernel
theorem dX5_unevenInk_109 : decode cX5_unevenInk 109 = .ok (.iinc 8 2, 3) := by decide +kernel
theorem dX5_unevenInk_112 : decode cX5_unevenInk 112 = .ok (.goto (-72), 3) := by decide +kernel
theorem dX5_unevenInk_115 : decode cX5_unevenInk 115 = .ok (.iinc 7 2, 3) := by decide +kernel
theorem dX5_unevenInk_118 : decode cX5_unevenInk 118 = .ok (.goto (-88), 3) := by decide +kernel
theorem dX5_unevenInk_121 : decode cX5_unevenInk 121 = .ok (.lload 5, 2) := by decide +kernel
theorem dX5_unevenInk_123 : decode cX5_unevenInk 123 = .ok (.lreturn, 1) := by decide +kernel
theorem dX5_bitsWithin_0 : decode cX5_bitsWithin 0 = .ok (.iconst 0, 1) := by decide +kernel
theorem dX5_bitsWithin_1 : decode cX5_bitsWithin 1 = .ok (.istore_n 2, 1) := by decide +kernel
theorem dX5_bitsWithin_2 : decode cX5_bitsWithin 2 = .ok (.iconst 0, 1) := by decide +kernel
theorem dX5_bitsWithin_3 : decode cX5_bitsWithin 3 = .ok (.istore_n 3, 1) := by decide +kernel
theorem dX5_bitsWithin_4 : decode cX5_bitsWithin 4 = .ok (.iload_n 3, 1) := by decide +kernel
theorem dX5_bitsWithin_5 : decode cX5_bitsWithin 5 = .ok (.bipush 96, 2) := by decide +kernel
theorem dX5_bitsWithin_7 : decode cX5_bitsWithin 7 = .ok (.if_icmp .ge 32, 3) := by decide +kernel
theorem dX5_bitsWithin_10 : decode cX5_bitsWithin 10 = .ok (.iload_n 3, 1) := by decide +kernel
theorem dX5_bitsWithin_11 : decode cX5_bitsWithin 11 = .ok (.aload_n 1, 1) := by decide +kernel
theorem dX5_bitsWithin_12 : decode cX5_bitsWithin 12 = .ok (.arraylength, 1) := by decide +kernel
theorem dX5_bitsWithin_13 : decode cX5_bitsWithin 13 = .ok (.if_icmp .ge 26, 3) := by decide +kernel
theorem dX5_bitsWithin_16 : decode cX5_bitsWithin 16 = .ok (.aload_n 0, 1) := by decide +kernel
theorem dX5_bitsWithin_17 : decode cX5_bitsWithin 17 = .ok (.iload_n 3, 1) := by decide +kernel
theorem dX5_bitsWithin_18 : decode cX5_bitsWithin 18 = .ok (.invokevirtual 237, 3) := by decide +kernel
theorem dX5_bitsWithin_21 : decode cX5_bitsWithin 21 = .ok (.ifCond .eq 12, 3) := by decide +kernel
theorem dX5_bitsWithin_24 : decode cX5_bitsWithin 24 = .ok (.iload_n 2, 1) := by decide +kernel
theorem dX5_bitsWithin_25 : decode cX5_bitsWithin 25 = .ok (.aload_n 1, 1) := by decide +kernel
theorem dX5_bitsWithin_26 : decode cX5_bitsWithin 26 = .ok (.iload_n 3, 1) := by decide +kernel
theorem dX5_bitsWithin_27 : decode cX5_bitsWithin 27 = .ok (.iaload, 1) := by decide +kernel
theorem dX5_bitsWithin_28 : decode cX5_bitsWithin 28 = .ok (.invokestatic 92, 3) := by decide +kernel
theorem dX5_bitsWithin_31 : decode cX5_bitsWithin 31 = .ok (.iadd, 1) := by decide +kernel
theorem dX5_bitsWithin_32 : decode cX5_bitsWithin 32 = .ok (.istore_n 2, 1) := by decide +kernel
theorem dX5_bitsWithin_33 : decode cX5_bitsWithin 33 = .ok (.iinc 3 1, 3) := by decide +kernel
theorem dX5_bitsWithin_36 : decode cX5_bitsWithin 36 = .ok (.goto (-32), 3) := by decide +kernel
theorem dX5_bitsWithin_39 : decode cX5_bitsWithin 39 = .ok (.iload_n 2, 1) := by decide +kernel
theorem dX5_bitsWithin_40 : decode cX5_bitsWithin 40 = .ok (.ireturn, 1) := by decide +kernel
theorem dX5_pushWithout_0 : decode cX5_pushWithout 0 = .ok (.aload_n 0, 1) := by decide +kernel
theorem dX5_pushWithout_1 : decode cX5_pushWithout 1 = .ok (.getfield 16, 3) := by decide +kernel
theorem dX5_pushWithout_4 : decode cX5_pushWithout 4 = .ok (.aload_n 0, 1) := by decide +kernel
theorem dX5_pushWithout_5 : decode cX5_pushWithout 5 = .ok (.getfield 10, 3) := by decide +kernel
theorem dX5_pushWithout_8 : decode cX5_pushWithout 8 = .ok (.invokevirtual 204, 3) := by decide +kernel
theorem dX5_pushWithout_11 : decode cX5_pushWithout 11 = .ok (.iload_n 1, 1) := by decide +kernel
theorem dX5_pushWithout_12 : decode cX5_pushWithout 12 = .ok (.invokestatic 37, 3) := by decide +kernel
theorem dX5_pushWithout_15 : decode cX5_pushWithout 15 = .ok (.ifCond .ne 11, 3) := by decide +kernel
theorem dX5_pushWithout_18 : decode cX5_pushWithout 18 = .ok (.aload_n 0, 1) := by decide +kernel
theorem dX5_pushWithout_19 : decode cX5_pushWithout 19 = .ok (.getfield 16, 3) := by decide +kernel
theorem dX5_pushWithout_22 : decode cX5_pushWithout 22 = .ok (.iload_n 1, 1) := by decide +kernel
theorem dX5_pushWithout_23 : decode cX5_pushWithout 23 = .ok (.invokevirtual 67, 3) := by decide +kernel
theorem dX5_pushWithout_26 : decode cX5_pushWithout 26 = .ok (.iconst 0, 1) := by decide +kernel
theorem dX5_pushWithout_27 : decode cX5_pushWithout 27 = .ok (.istore 4, 2) := by decide +kernel
theorem dX5_pushWithout_29 : decode cX5_pushWithout 29 = .ok (.iload 4, 2) := by decide +kernel
theorem dX5_pushWithout_31 : decode cX5_pushWithout 31 = .ok (.iload_n 3, 1) := by decide +kernel
theorem dX5_pushWithout_32 : decode cX5_pushWithout 32 = .ok (.if_icmp .ge 16, 3) := by decide +kernel
theorem dX5_pushWithout_35 : decode cX5_pushWithout 35 = .ok (.aload_n 0, 1) := by decide +kernel
theorem dX5_pushWithout_36 : decode cX5_pushWithout 36 = .ok (.getfield 16, 3) := by decide +kernel
theorem dX5_pushWithout_39 : decode cX5_pushWithout 39 = .ok (.invokevirtual 119, 3) := by decide +kernel
theorem dX5_pushWithout_42 : decode cX5_pushWithout 42 = .ok (.iinc 4 1, 3) := by decide +kernel
theorem dX5_pushWithout_45 : decode cX5_pushWithout 45 = .ok (.goto (-16), 3) := by decide +kernel
theorem dX5_pushWithout_48 : decode cX5_pushWithout 48 = .ok (.iload_n 2, 1) := by decide +kernel
theorem dX5_pushWithout_49 : decode cX5_pushWithout 49 = .ok (.invokestatic 41, 3) := by decide +kernel
theorem dX5_pushWithout_52 : decode cX5_pushWithout 52 = .ok (.ifCond .eq 7, 3) := by decide +kernel
theorem dX5_pushWithout_55 : decode cX5_pushWithout 55 = .ok (.iconst 0, 1) := by decide +kernel
theorem dX5_pushWithout_56 : decode cX5_pushWithout 56 = .ok (.goto 22, 3) := by decide +kernel
theorem dX5_pushWithout_59 : decode cX5_pushWithout 59 = .ok (.aload_n 0, 1) := by decide +kernel
theorem dX5_pushWithout_60 : decode cX5_pushWithout 60 = .ok (.getfield 16, 3) := by decide +kernel
theorem dX5_pushWithout_63 : decode cX5_pushWithout 63 = .ok (.getfield 142, 3) := by decide +kernel
theorem dX5_pushWithout_66 : decode cX5_pushWithout 66 = .ok (.iload_n 2, 1) := by decide +kernel
theorem dX5_pushWithout_67 : decode cX5_pushWithout 67 = .ok (.iaload, 1) := by decide +kernel
theorem dX5_pushWithout_68 : decode cX5_pushWithout 68 = .ok (.aload_n 0, 1) := by decide +kernel
theorem dX5_pushWithout_69 : decode cX5_pushWithout 69 = .ok (.getfield 10, 3) := by decide +kernel
theorem dX5_pushWithout_72 : decode cX5_pushWithout 72 = .ok (.getfield 142, 3) := by decide +kernel
theorem dX5_pushWithout_75 : decode cX5_pushWithout 75 = .ok (.iload_n 2, 1) := by decide +kernel
theorem dX5_pushWithout_76 : decode cX5_pushWithout 76 = .ok (.iaload, 1) := by decide +kernel
theorem dX5_pushWithout_77 : decode cX5_pushWithout 77 = .ok (.isub, 1) := by decide +kernel
theorem dX5_pushWithout_78 : decode cX5_pushWithout 78 = .ok (.ireturn, 1) := by decide +kernel
theorem dJ6_bitCount_0f7a4_0 : decode cJ6_bitCount_0f7a4 0 = .ok (.iload_n 0, 1) := by decide +kernel
theorem dJ6_bitCount_0f7a4_1 : decode cJ6_bitCount_0f7a4 1 = .ok (.iload_n 0, 1) := by decide +kernel
theorem dJ6_bitCount_0f7a4_2 : decode cJ6_bitCount_0f7a4 2 = .ok (.iconst 1, 1) := by decide +kernel
theorem dJ6_bitCount_0f7a4_3 : decode cJ6_bitCount_0f7a4 3 = .ok (.iushr, 1) := by decide +kernel
theorem dJ6_bitCount_0f7a4_4 : decode cJ6_bitCount_0f7a4 4 = .ok (.ldc_w 265, 3) := by decide +kernel
theorem dJ6_bitCount_0f7a4_7 : decode cJ6_bitCount_0f7a4 7 = .ok (.iand, 1) := by decide +kernel
theorem dJ6_bitCount_0f7a4_8 : decode cJ6_bitCount_0f7a4 8 = .ok (.isub, 1) := by decide +kernel
theorem dJ6_bitCount_0f7a4_9 : decode cJ6_bitCount_0f7a4 9 = .ok (.istore_n 0, 1) := by decide +kernel
theorem dJ6_bitCount_0f7a4_10 : decode cJ6_bitCount_0f7a4 10 = .ok (.iload_n 0, 1) := by decide +kernel
theorem dJ6_bitCount_0f7a4_11 : decode cJ6_bitCount_0f7a4 11 = .ok (.ldc_w 266, 3) := by decide +kernel
theorem dJ6_bitCount_0f7a4_14 : decode cJ6_bitCount_0f7a4 14 = .ok (.iand, 1) := by decide +kernel
theorem dJ6_bitCount_0f7a4_15 : decode cJ6_bitCount_0f7a4 15 = .ok (.iload_n 0, 1) := by decide +kernel
theorem dJ6_bitCount_0f7a4_16 : decode cJ6_bitCount_0f7a4 16 = .ok (.iconst 2, 1) := by decide +kernel
theorem dJ6_bitCount_0f7a4_17 : decode cJ6_bitCount_0f7a4 17 = .ok (.iushr, 1) := by decide +kernel
theorem dJ6_bitCount_0f7a4_18 : decode cJ6_bitCount_0f7a4 18 = .ok (.ldc_w 266, 3) := by decide +kernel
theorem dJ6_bitCount_0f7a4_21 : decode cJ6_bitCount_0f7a4 21 = .ok (.iand, 1) := by decide +kernel
theorem dJ6_bitCount_0f7a4_22 : decode cJ6_bitCount_0f7a4 22 = .ok (.iadd, 1) := by decide +kernel
theorem dJ6_bitCount_0f7a4_23 : decode cJ6_bitCount_0f7a4 23 = .ok (.istore_n 0, 1) := by decide +kernel
theorem dJ6_bitCount_0f7a4_24 : decode cJ6_bitCount_0f7a4 24 = .ok (.iload_n 0, 1) := by decide +kernel
theorem dJ6_bitCount_0f7a4_25 : decode cJ6_bitCount_0f7a4 25 = .ok (.iload_n 0, 1) := by decide +kernel
theorem dJ6_bitCount_0f7a4_26 : decode cJ6_bitCount_0f7a4 26 = .ok (.iconst 4, 1) := by decide +kernel
theorem dJ6_bitCount_0f7a4_27 : decode cJ6_bitCount_0f7a4 27 = .ok (.iushr, 1) := by decide +kernel
theorem dJ6_bitCount_0f7a4_28 : decode cJ6_bitCount_0f7a4 28 = .ok (.iadd, 1) := by decide +kernel
theorem dJ6_bitCount_0f7a4_29 : decode cJ6_bitCount_0f7a4 29 = .ok (.ldc_w 267, 3) := by decide +kernel
theorem dJ6_bitCount_0f7a4_32 : decode cJ6_bitCount_0f7a4 32 = .ok (.iand, 1) := by decide +kernel
theorem dJ6_bitCount_0f7a4_33 : decode cJ6_bitCount_0f7a4 33 = .ok (.istore_n 0, 1) := by decide +kernel
theorem dJ6_bitCount_0f7a4_34 : decode cJ6_bitCount_0f7a4 34 = .ok (.iload_n 0, 1) := by decide +kernel
theorem dJ6_bitCount_0f7a4_35 : decode cJ6_bitCount_0f7a4 35 = .ok (.iload_n 0, 1) := by decide +kernel
theorem dJ6_bitCount_0f7a4_36 : decode cJ6_bitCount_0f7a4 36 = .ok (.bipush 8, 2) := by decide +kernel
theorem dJ6_bitCount_0f7a4_38 : decode cJ6_bitCount_0f7a4 38 = .ok (.iushr, 1) := by decide +kernel
theorem dJ6_bitCount_0f7a4_39 : decode cJ6_bitCount_0f7a4 39 = .ok (.iadd, 1) := by decide +kernel
theorem dJ6_bitCount_0f7a4_40 : decode cJ6_bitCount_0f7a4 40 = .ok (.istore_n 0, 1) := by decide +kernel
theorem dJ6_bitCount_0f7a4_41 : decode cJ6_bitCount_0f7a4 41 = .ok (.iload_n 0, 1) := by decide +kernel
theorem dJ6_bitCount_0f7a4_42 : decode cJ6_bitCount_0f7a4 42 = .ok (.iload_n 0, 1) := by decide +kernel
theorem dJ6_bitCount_0f7a4_43 : decode cJ6_bitCount_0f7a4 43 = .ok (.bipush 16, 2) := by decide +kernel
theorem dJ6_bitCount_0f7a4_45 : decode cJ6_bitCount_0f7a4 45 = .ok (.iushr, 1) := by decide +kernel
theorem dJ6_bitCount_0f7a4_46 : decode cJ6_bitCount_0f7a4 46 = .ok (.iadd, 1) := by decide +kernel
theorem dJ6_bitCount_0f7a4_47 : decode cJ6_bitCount_0f7a4 47 = .ok (.istore_n 0, 1) := by decide +kernel
theorem dJ6_bitCount_0f7a4_48 : decode cJ6_bitCount_0f7a4 48 = .ok (.iload_n 0, 1) := by decide +kernel
theorem dJ6_bitCount_0f7a4_49 : decode cJ6_bitCount_0f7a4 49 = .ok (.bipush 63, 2) := by decide +kernel
theorem dJ6_bitCount_0f7a4_51 : decode cJ6_bitCount_0f7a4 51 = .ok (.iand, 1) := by decide +kernel
theorem dJ6_bitCount_0f7a4_52 : decode cJ6_bitCount_0f7a4 52 = .ok (.ireturn, 1) := by decide +kernel
theorem dJ9_floorDiv_f86c9_0 : decode cJ9_floorDiv_f86c9 0 = .ok (.lload_n 0, 1) := by decide +kernel
theorem dJ9_floorDiv_f86c9_1 : decode cJ9_floorDiv_f86c9 1 = .ok (.lload_n 2, 1) := by decide +kernel
theorem dJ9_floorDiv_f86c9_2 : decode cJ9_floorDiv_f86c9 2 = .ok (.ldiv, 1) := by decide +kernel
theorem dJ9_floorDiv_f86c9_3 : decode cJ9_floorDiv_f86c9 3 = .ok (.lstore 4, 2) := by decide +kernel
theorem dJ9_floorDiv_f86c9_5 : decode cJ9_floorDiv_f86c9 5 = .ok (.lload_n 0, 1) := by decide +kernel
theorem dJ9_floorDiv_f86c9_6 : decode cJ9_floorDiv_f86c9 6 = .ok (.lload_n 2, 1) := by decide +kernel
theorem dJ9_floorDiv_f86c9_7 : decode cJ9_floorDiv_f86c9 7 = .ok (.lxor, 1) := by decide +kernel
theorem dJ9_floorDiv_f86c9_8 : decode cJ9_floorDiv_f86c9 8 = .ok (.lconst 0, 1) := by decide +kernel
theorem dJ9_floorDiv_f86c9_9 : decode cJ9_floorDiv_f86c9 9 = .ok (.lcmp, 1) := by decide +kernel
theorem dJ9_floorDiv_f86c9_10 : decode cJ9_floorDiv_f86c9 10 = .ok (.ifCond .ge 17, 3) := by decide +kernel
theorem dJ9_floorDiv_f86c9_13 : decode cJ9_floorDiv_f86c9 13 = .ok (.lload 4, 2) := by decide +kernel
theorem dJ9_floorDiv_f86c9_15 : decode cJ9_floorDiv_f86c9 15 = .ok (.lload_n 2, 1) := by decide +kernel
theorem dJ9_floorDiv_f86c9_16 : decode cJ9_floorDiv_f86c9 16 = .ok (.lmul, 1) := by decide +kernel
theorem dJ9_floorDiv_f86c9_17 : decode cJ9_floorDiv_f86c9 17 = .ok (.lload_n 0, 1) := by decide +kernel
theorem dJ9_floorDiv_f86c9_18 : decode cJ9_floorDiv_f86c9 18 = .ok (.lcmp, 1) := by decide +kernel
theorem dJ9_floorDiv_f86c9_19 : decode cJ9_floorDiv_f86c9 19 = .ok (.ifCond .eq 8, 3) := by decide +kernel
theorem dJ9_floorDiv_f86c9_22 : decode cJ9_floorDiv_f86c9 22 = .ok (.lload 4, 2) := by decide +kernel
theorem dJ9_floorDiv_f86c9_24 : decode cJ9_floorDiv_f86c9 24 = .ok (.lconst 1, 1) := by decide +kernel
theorem dJ9_floorDiv_f86c9_25 : decode cJ9_floorDiv_f86c9 25 = .ok (.lsub, 1) := by decide +kernel
theorem dJ9_floorDiv_f86c9_26 : decode cJ9_floorDiv_f86c9 26 = .ok (.lreturn, 1) := by decide +kernel
theorem dJ9_floorDiv_f86c9_27 : decode cJ9_floorDiv_f86c9 27 = .ok (.lload 4, 2) := by decide +kernel
theorem dJ9_floorDiv_f86c9_29 : decode cJ9_floorDiv_f86c9 29 = .ok (.lreturn, 1) := by decide +kernel
theorem dJ9_floorMod_7cf53_0 : decode cJ9_floorMod_7cf53 0 = .ok (.iload_n 0, 1) := by decide +kernel
theorem dJ9_floorMod_7cf53_1 : decode cJ9_floorMod_7cf53 1 = .ok (.iload_n 1, 1) := by decide +kernel
theorem dJ9_floorMod_7cf53_2 : decode cJ9_floorMod_7cf53 2 = .ok (.irem, 1) := by decide +kernel
theorem dJ9_floorMod_7cf53_3 : decode cJ9_floorMod_7cf53 3 = .ok (.istore_n 2, 1) := by decide +kernel
theorem dJ9_floorMod_7cf53_4 : decode cJ9_floorMod_7cf53 4 = .ok (.iload_n 0, 1) := by decide +kernel
theorem dJ9_floorMod_7cf53_5 : decode cJ9_floorMod_7cf53 5 = .ok (.iload_n 1, 1) := by decide +kernel
theorem dJ9_floorMod_7cf53_6 : decode cJ9_floorMod_7cf53 6 = .ok (.ixor, 1) := by decide +kernel
theorem dJ9_floorMod_7cf53_7 : decode cJ9_floorMod_7cf53 7 = .ok (.ifCond .ge 11, 3) := by decide +kernel
theorem dJ9_floorMod_7cf53_10 : decode cJ9_floorMod_7cf53 10 = .ok (.iload_n 2, 1) := by decide +kernel
theorem dJ9_floorMod_7cf53_11 : decode cJ9_floorMod_7cf53 11 = .ok (.ifCond .eq 7, 3) := by decide +kernel
theorem dJ9_floorMod_7cf53_14 : decode cJ9_floorMod_7cf53 14 = .ok (.iload_n 2, 1) := by decide +kernel
theorem dJ9_floorMod_7cf53_15 : decode cJ9_floorMod_7cf53 15 = .ok (.iload_n 1, 1) := by decide +kernel
theorem dJ9_floorMod_7cf53_16 : decode cJ9_floorMod_7cf53 16 = .ok (.iadd, 1) := by decide +kernel
theorem dJ9_floorMod_7cf53_17 : decode cJ9_floorMod_7cf53 17 = .ok (.ireturn, 1) := by decide +kernel
theorem dJ9_floorMod_7cf53_18 : decode cJ9_floorMod_7cf53 18 = .ok (.iload_n 2, 1) := by decide +kernel
theorem dJ9_floorMod_7cf53_19 : decode cJ9_floorMod_7cf53 19 = .ok (.ireturn, 1) := by decide +kernel
theorem dJ9_abs_067f4_0 : decode cJ9_abs_067f4 0 = .ok (.lload_n 0, 1) := by decide +kernel
theorem dJ9_abs_067f4_1 : decode cJ9_abs_067f4 1 = .ok (.lconst 0, 1) := by decide +kernel
theorem dJ9_abs_067f4_2 : decode cJ9_abs_067f4 2 = .ok (.lcmp, 1) := by decide +kernel
theorem dJ9_abs_067f4_3 : decode cJ9_abs_067f4 3 = .ok (.ifCond .ge 8, 3) := by decide +kernel
theorem dJ9_abs_067f4_6 : decode cJ9_abs_067f4 6 = .ok (.lload_n 0, 1) := by decide +kernel
theorem dJ9_abs_067f4_7 : decode cJ9_abs_067f4 7 = .ok (.lneg, 1) := by decide +kernel
theorem dJ9_abs_067f4_8 : decode cJ9_abs_067f4 8 = .ok (.goto 4, 3) := by decide +kernel
theorem dJ9_abs_067f4_11 : decode cJ9_abs_067f4 11 = .ok (.lload_n 0, 1) := by decide +kernel
theorem dJ9_abs_067f4_12 : decode cJ9_abs_067f4 12 = .ok (.lreturn, 1) := by decide +kernel
theorem dJ9_min_7cf53_0 : decode cJ9_min_7cf53 0 = .ok (.iload_n 0, 1) := by decide +kernel
theorem dJ9_min_7cf53_1 : decode cJ9_min_7cf53 1 = .ok (.iload_n 1, 1) := by decide +kernel
theorem dJ9_min_7cf53_2 : decode cJ9_min_7cf53 2 = .ok (.if_icmp .gt 7, 3) := by decide +kernel
theorem dJ9_min_7cf53_5 : decode cJ9_min_7cf53 5 = .ok (.iload_n 0, 1) := by decide +kernel
theorem dJ9_min_7cf53_6 : decode cJ9_min_7cf53 6 = .ok (.goto 4, 3) := by decide +kernel
theorem dJ9_min_7cf53_9 : decode cJ9_min_7cf53 9 = .ok (.iload_n 1, 1) := by decide +kernel
theorem dJ9_min_7cf53_10 : decode cJ9_min_7cf53 10 = .ok (.ireturn, 1) := by decide +kernel
theorem dJ7_fill_53178_0 : decode cJ7_fill_53178 0 = .ok (.iconst 0, 1) := by decide +kernel
theorem dJ7_fill_53178_1 : decode cJ7_fill_53178 1 = .ok (.istore_n 2, 1) := by decide +kernel
theorem dJ7_fill_53178_2 : decode cJ7_fill_53178 2 = .ok (.aload_n 0, 1) := by decide +kernel
theorem dJ7_fill_53178_3 : decode cJ7_fill_53178 3 = .ok (.arraylength, 1) := by decide +kernel
theorem dJ7_fill_53178_4 : decode cJ7_fill_53178 4 = .ok (.istore_n 3, 1) := by decide +kernel
theorem dJ7_fill_53178_5 : decode cJ7_fill_53178 5 = .ok (.iload_n 2, 1) := by decide +kernel
theorem dJ7_fill_53178_6 : decode cJ7_fill_53178 6 = .ok (.iload_n 3, 1) := by decide +kernel
theorem dJ7_fill_53178_7 : decode cJ7_fill_53178 7 = .ok (.if_icmp .ge 13, 3) := by decide +kernel
theorem dJ7_fill_53178_10 : decode cJ7_fill_53178 10 = .ok (.aload_n 0, 1) := by decide +kernel
theorem dJ7_fill_53178_11 : decode cJ7_fill_53178 11 = .ok (.iload_n 2, 1) := by decide +kernel
theorem dJ7_fill_53178_12 : decode cJ7_fill_53178 12 = .ok (.iload_n 1, 1) := by decide +kernel
theorem dJ7_fill_53178_13 : decode cJ7_fill_53178 13 = .ok (.iastore, 1) := by decide +kernel
theorem dJ7_fill_53178_14 : decode cJ7_fill_53178 14 = .ok (.iinc 2 1, 3) := by decide +kernel
theorem dJ7_fill_53178_17 : decode cJ7_fill_53178 17 = .ok (.goto (-12), 3) := by decide +kernel
theorem dJ7_fill_53178_20 : decode cJ7_fill_53178 20 = .ok (.return_, 1) := by decide +kernel
theorem dL_draw_0 : decode cL_draw 0 = .ok (.iload_n 1, 1) := by decide +kernel
theorem dL_draw_1 : decode cL_draw 1 = .ok (.aload_n 0, 1) := by decide +kernel
theorem dL_draw_2 : decode cL_draw 2 = .ok (.arraylength, 1) := by decide +kernel
theorem dL_draw_3 : decode cL_draw 3 = .ok (.if_icmp .ge 9, 3) := by decide +kernel
theorem dL_draw_6 : decode cL_draw 6 = .ok (.aload_n 0, 1) := by decide +kernel
theorem dL_draw_7 : decode cL_draw 7 = .ok (.iload_n 1, 1) := by decide +kernel
theorem dL_draw_8 : decode cL_draw 8 = .ok (.iaload, 1) := by decide +kernel
theorem dL_draw_9 : decode cL_draw 9 = .ok (.goto 11, 3) := by decide +kernel
theorem dL_draw_12 : decode cL_draw 12 = .ok (.ldc 7, 2) := by decide +kernel
theorem dL_draw_14 : decode cL_draw 14 = .ok (.iload_n 1, 1) := by decide +kernel
theorem dL_draw_15 : decode cL_draw 15 = .ok (.imul, 1) := by decide +kernel
theorem dL_draw_16 : decode cL_draw 16 = .ok (.sipush 11867, 3) := by decide +kernel
theorem dL_draw_19 : decode cL_draw 19 = .ok (.iadd, 1) := by decide +kernel
theorem dL_draw_20 : decode cL_draw 20 = .ok (.ldc 8, 2) := by decide +kernel
theorem dL_draw_22 : decode cL_draw 22 = .ok (.iand, 1) := by decide +kernel
theorem dL_draw_23 : decode cL_draw 23 = .ok (.ireturn, 1) := by decide +kernel
theorem dL_wall_0 : decode cL_wall 0 = .ok (.aload_n 0, 1) := by decide +kernel
theorem dL_wall_1 : decode cL_wall 1 = .ok (.iload_n 1, 1) := by decide +kernel
theorem dL_wall_2 : decode cL_wall 2 = .ok (.iload_n 2, 1) := by decide +kernel
theorem dL_wall_3 : decode cL_wall 3 = .ok (.invokevirtual 9, 3) := by decide +kernel
theorem dL_wall_6 : decode cL_wall 6 = .ok (.lconst 0, 1) := by decide +kernel
theorem dL_wall_7 : decode cL_wall 7 = .ok (.lreturn, 1) := by decide +kernel
theorem dL_wall_8 : decode cL_wall 8 = .ok (.astore_n 3, 1) := by decide +kernel
theorem dL_wall_9 : decode cL_wall 9 = .ok (.ldc2_w 17, 3) := by decide +kernel
theorem dL_wall_12 : decode cL_wall 12 = .ok (.lreturn, 1) := by decide +kernel
theorem dL_wall_13 : decode cL_wall 13 = .ok (.astore_n 3, 1) := by decide +kernel
theorem dL_wall_14 : decode cL_wall 14 = .ok (.ldc2_w 21, 3) := by decide +kernel
theorem dL_wall_17 : decode cL_wall 17 = .ok (.lreturn, 1) := by decide +kernel
theorem dL_clear_0 : decode cL_clear 0 = .ok (.aload_n 0, 1) := by decide +kernel
theorem dL_clear_1 : decode cL_clear 1 = .ok (.iload_n 1, 1) := by decide +kernel
theorem dL_clear_2 : decode cL_clear 2 = .ok (.invokevirtual 23, 3) := by decide +kernel
theorem dL_clear_5 : decode cL_clear 5 = .ok (.i2l, 1) := by decide +kernel
theorem dL_clear_6 : decode cL_clear 6 = .ok (.lreturn, 1) := by decide +kernel
theorem dL_clear_7 : decode cL_clear 7 = .ok (.astore_n 2, 1) := by decide +kernel
theorem dL_clear_8 : decode cL_clear 8 = .ok (.ldc2_w 17, 3) := by decide +kernel
theorem dL_clear_11 : decode cL_clear 11 = .ok (.lreturn, 1) := by decide +kernel
theorem dL_open_0 : decode cL_open 0 = .ok (.aload_n 0, 1) := by decide +kernel
theorem dL_open_1 : decode cL_open 1 = .ok (.iload_n 1, 1) := by decide +kernel
theorem dL_open_2 : decode cL_open 2 = .ok (.iload_n 2, 1) := by decide +kernel
theorem dL_open_3 : decode cL_open 3 = .ok (.invokevirtual 27, 3) := by decide +kernel
theorem dL_open_6 : decode cL_open 6 = .ok (.lconst 0, 1) := by decide +kernel
theorem dL_open_7 : decode cL_open 7 = .ok (.lreturn, 1) := by decide +kernel
theorem dL_open_8 : decode cL_open 8 = .ok (.astore_n 3, 1) := by decide +kernel
theorem dL_open_9 : decode cL_open 9 = .ok (.ldc2_w 17, 3) := by decide +kernel
theorem dL_open_12 : decode cL_open 12 = .ok (.lreturn, 1) := by decide +kernel
theorem dL_open_13 : decode cL_open 13 = .ok (.astore_n 3, 1) := by decide +kernel
theorem dL_open_14 : decode cL_open 14 = .ok (.ldc2_w 32, 3) := by decide +kernel
theorem dL_open_17 : decode cL_open 17 = .ok (.lreturn, 1) := by decide +kernel
theorem dL_open_18 : decode cL_open 18 = .ok (.astore_n 3, 1) := by decide +kernel
theorem dL_open_19 : decode cL_open 19 = .ok (.ldc2_w 21, 3) := by decide +kernel
theorem dL_open_22 : decode cL_open 22 = .ok (.lreturn, 1) := by decide +kernel
theorem dL_particle_0 : decode cL_particle 0 = .ok (.aload_n 0, 1) := by decide +kernel
theorem dL_particle_1 : decode cL_particle 1 = .ok (.iload_n 1, 1) := by decide +kernel
theorem dL_particle_2 : decode cL_particle 2 = .ok (.iload_n 2, 1) := by decide +kernel
theorem dL_particle_3 : decode cL_particle 3 = .ok (.invokevirtual 34, 3) := by decide +kernel
theorem dL_particle_6 : decode cL_particle 6 = .ok (.i2l, 1) := by decide +kernel
theorem dL_particle_7 : decode cL_particle 7 = .ok (.lreturn, 1) := by decide +kernel
theorem dL_particle_8 : decode cL_particle 8 = .ok (.astore_n 3, 1) := by decide +kernel
theorem dL_particle_9 : decode cL_particle 9 = .ok (.ldc2_w 17, 3) := by decide +kernel
theorem dL_particle_12 : decode cL_particle 12 = .ok (.lreturn, 1) := by decide +kernel
theorem dL_particle_13 : decode cL_particle 13 = .ok (.astore_n 3, 1) := by decide +kernel
theorem dL_particle_14 : decode cL_particle 14 = .ok (.ldc2_w 32, 3) := by decide +kernel
theorem dL_particle_17 : decode cL_particle 17 = .ok (.lreturn, 1) := by decide +kernel
theorem dL_particle_18 : decode cL_particle 18 = .ok (.astore_n 3, 1) := by decide +kernel
theorem dL_particle_19 : decode cL_particle 19 = .ok (.ldc2_w 21, 3) := by decide +kernel
theorem dL_particle_22 : decode cL_particle 22 = .ok (.lreturn, 1) := by decide +kernel
theorem dL_ink_0 : decode cL_ink 0 = .ok (.aload_n 0, 1) := by decide +kernel
theorem dL_ink_1 : decode cL_ink 1 = .ok (.iload_n 1, 1) := by decide +kernel
theorem dL_ink_2 : decode cL_ink 2 = .ok (.invokevirtual 38, 3) := by decide +kernel
theorem dL_ink_5 : decode cL_ink 5 = .ok (.i2l, 1) := by decide +kernel
theorem dL_ink_6 : decode cL_ink 6 = .ok (.lreturn, 1) := by decide +kernel
theorem dL_ink_7 : decode cL_ink 7 = .ok (.astore_n 2, 1) := by decide +kernel
theorem dL_ink_8 : decode cL_ink 8 = .ok (.ldc2_w 17, 3) := by decide +kernel
theorem dL_ink_11 : decode cL_ink 11 = .ok (.lreturn, 1) := by decide +kernel
theorem dL_probe_0 : decode cL_probe 0 = .ok (.aload_n 0, 1) := by decide +kernel
theorem dL_probe_1 : decode cL_probe 1 = .ok (.iload_n 1, 1) := by decide +kernel
theorem dL_probe_2 : decode cL_probe 2 = .ok (.invokevirtual 41, 3) := by decide +kernel
theorem dL_probe_5 : decode cL_probe 5 = .ok (.i2l, 1) := by decide +kernel
theorem dL_probe_6 : decode cL_probe 6 = .ok (.lreturn, 1) := by decide +kernel
theorem dL_probe_7 : decode cL_probe 7 = .ok (.astore_n 2, 1) := by decide +kernel
theorem dL_probe_8 : decode cL_probe 8 = .ok (.ldc2_w 17, 3) := by decide +kernel
theorem dL_probe_11 : decode cL_probe 11 = .ok (.lreturn, 1) := by decide +kernel
theorem dL_probe_12 : decode cL_probe 12 = .ok (.astore_n 2, 1) := by decide +kernel
theorem dL_probe_13 : decode cL_probe 13 = .ok (.ldc2_w 21, 3) := by decide +kernel
theorem dL_probe_16 : decode cL_probe 16 = .ok (.lreturn, 1) := by decide +kernel
theorem dL_fault_0 : decode cL_fault 0 = .ok (.aload_n 0, 1) := by decide +kernel
theorem dL_fault_1 : decode cL_fault 1 = .ok (.iload_n 1, 1) := by decide +kernel
theorem dL_fault_2 : decode cL_fault 2 = .ok (.iload_n 2, 1) := by decide +kernel
theorem dL_fault_3 : decode cL_fault 3 = .ok (.invokevirtual 44, 3) := by decide +kernel
theorem dL_fault_6 : decode cL_fault 6 = .ok (.i2l, 1) := by decide +kernel
theorem dL_fault_7 : decode cL_fault 7 = .ok (.lreturn, 1) := by decide +kernel
theorem dL_fault_8 : decode cL_fault 8 = .ok (.astore_n 3, 1) := by decide +kernel
theorem dL_fault_9 : decode cL_fault 9 = .ok (.ldc2_w 17, 3) := by decide +kernel
theorem dL_fault_12 : decode cL_fault 12 = .ok (.lreturn, 1) := by decide +kernel
theorem dL_fault_13 : decode cL_fault 13 = .ok (.astore_n 3, 1) := by decide +kernel
theorem dL_fault_14 : decode cL_fault 14 = .ok (.ldc2_w 32, 3) := by decide +kernel
theorem dL_fault_17 : decode cL_fault 17 = .ok (.lreturn, 1) := by decide +kernel
theorem dL_bring_0 : decode cL_bring 0 = .ok (.aload_n 0, 1) := by decide +kernel
theorem dL_bring_1 : decode cL_bring 1 = .ok (.iload_n 1, 1) := by decide +kernel
theorem dL_bring_2 : decode cL_bring 2 = .ok (.iload_n 2, 1) := by decide +kernel
theorem dL_bring_3 : decode cL_bring 3 = .ok (.iload_n 3, 1) := by decide +kernel
theorem dL_bring_4 : decode cL_bring 4 = .ok (.invokevirtual 47, 3) := by decide +kernel
theorem dL_bring_7 : decode cL_bring 7 = .ok (.i2l, 1) := by decide +kernel
theorem dL_bring_8 : decode cL_bring 8 = .ok (.lreturn, 1) := by decide +kernel
theorem dL_bring_9 : decode cL_bring 9 = .ok (.astore 4, 2) := by decide +kernel
theorem dL_bring_11 : decode cL_bring 11 = .ok (.ldc2_w 17, 3) := by decide +kernel
theorem dL_bring_14 : decode cL_bring 14 = .ok (.lreturn, 1) := by decide +kernel
theorem dL_bring_15 : decode cL_bring 15 = .ok (.astore 4, 2) := by decide +kernel
theorem dL_bring_17 : decode cL_bring 17 = .ok (.ldc2_w 32, 3) := by decide +kernel
theorem dL_bring_20 : decode cL_bring 20 = .ok (.lreturn, 1) := by decide +kernel
theorem dL_bring_21 : decode cL_bring 21 = .ok (.astore 4, 2) := by decide +kernel
theorem dL_bring_23 : decode cL_bring 23 = .ok (.ldc2_w 21, 3) := by decide +kernel
theorem dL_bring_26 : decode cL_bring 26 = .ok (.lreturn, 1) := by decide +kernel
theorem dL_step_0 : decode cL_step 0 = .ok (.aload_n 0, 1) := by decide +kernel
theorem dL_step_1 : decode cL_step 1 = .ok (.iload_n 1, 1) := by decide +kernel
theorem dL_step_2 : decode cL_step 2 = .ok (.invokevirtual 51, 3) := by decide +kernel
theorem dL_step_5 : decode cL_step 5 = .ok (.i2l, 1) := by decide +kernel
theorem dL_step_6 : decode cL_step 6 = .ok (.lreturn, 1) := by decide +kernel
theorem dL_step_7 : decode cL_step 7 = .ok (.astore_n 2, 1) := by decide +kernel
theorem dL_step_8 : decode cL_step 8 = .ok (.ldc2_w 32, 3) := by decide +kernel
theorem dL_step_11 : decode cL_step 11 = .ok (.lreturn, 1) := by decide +kernel
theorem dL_step_12 : decode cL_step 12 = .ok (.astore_n 2, 1) := by decide +kernel
theorem dL_step_13 : decode cL_step 13 = .ok (.ldc2_w 21, 3) := by decide +kernel
theorem dL_step_16 : decode cL_step 16 = .ok (.lreturn, 1) := by decide +kernel
theorem dL_back_0 : decode cL_back 0 = .ok (.aload_n 0, 1) := by decide +kernel
theorem dL_back_1 : decode cL_back 1 = .ok (.iload_n 1, 1) := by decide +kernel
theorem dL_back_2 : decode cL_back 2 = .ok (.invokevirtual 54, 3) := by decide +kernel
theorem dL_back_5 : decode cL_back 5 = .ok (.i2l, 1) := by decide +kernel
theorem dL_back_6 : decode cL_back 6 = .ok (.lreturn, 1) := by decide +kernel
theorem dL_back_7 : decode cL_back 7 = .ok (.astore_n 2, 1) := by decide +kernel
theorem dL_back_8 : decode cL_back 8 = .ok (.ldc2_w 32, 3) := by decide +kernel
theorem dL_back_11 : decode cL_back 11 = .ok (.lreturn, 1) := by decide +kernel
theorem dL_back_12 : decode cL_back 12 = .ok (.astore_n 2, 1) := by decide +kernel
theorem dL_back_13 : decode cL_back 13 = .ok (.ldc2_w 21, 3) := by decide +kernel
theorem dL_back_16 : decode cL_back 16 = .ok (.lreturn, 1) := by decide +kernel
theorem dL_flow_0 : decode cL_flow 0 = .ok (.aload_n 0, 1) := by decide +kernel
theorem dL_flow_1 : decode cL_flow 1 = .ok (.iload_n 1, 1) := by decide +kernel
theorem dL_flow_2 : decode cL_flow 2 = .ok (.invokevirtual 57, 3) := by decide +kernel
theorem dL_flow_5 : decode cL_flow 5 = .ok (.lreturn, 1) := by decide +kernel
theorem dL_flow_6 : decode cL_flow 6 = .ok (.astore_n 2, 1) := by decide +kernel
theorem dL_flow_7 : decode cL_flow 7 = .ok (.ldc2_w 32, 3) := by decide +kernel
theorem dL_flow_10 : decode cL_flow 10 = .ok (.lreturn, 1) := by decide +kernel
theorem dL_cellOf_0 : decode cL_cellOf 0 = .ok (.aload_n 0, 1) := by decide +kernel
theorem dL_cellOf_1 : decode cL_cellOf 1 = .ok (.iload_n 1, 1) := by decide +kernel
theorem dL_cellOf_2 : decode cL_cellOf 2 = .ok (.iload_n 2, 1) := by decide +kernel
theorem dL_cellOf_3 : decode cL_cellOf 3 = .ok (.invokevirtual 61, 3) := by decide +kernel
theorem dL_cellOf_6 : decode cL_cellOf 6 = .ok (.i2l, 1) := by decide +kernel
theorem dL_cellOf_7 : decode cL_cellOf 7 = .ok (.lreturn, 1) := by decide +kernel
theorem dL_cellOf_8 : decode cL_cellOf 8 = .ok (.astore_n 3, 1) := by decide +kernel
theorem dL_cellOf_9 : decode cL_cellOf 9 = .ok (.ldc2_w 17, 3) := by decide +kernel
theorem dL_cellOf_12 : decode cL_cellOf 12 = .ok (.lreturn, 1) := by decide +kernel
theorem dL_cellOf_13 : decode cL_cellOf 13 = .ok (.astore_n 3, 1) := by decide +kernel
theorem dL_cellOf_14 : decode cL_cellOf 14 = .ok (.ldc2_w 32, 3) := by decide +kernel
theorem dL_cellOf_17 : decode cL_cellOf 17 = .ok (.lreturn, 1) := by decide +kernel
theorem dL_bodyOf_0 : decode cL_bodyOf 0 = .ok (.aload_n 0, 1) := by decide +kernel
theorem dL_bodyOf_1 : decode cL_bodyOf 1 = .ok (.iload_n 1, 1) := by decide +kernel
theorem dL_bodyOf_2 : decode cL_bodyOf 2 = .ok (.iload_n 2, 1) := by decide +kernel
theorem dL_bodyOf_3 : decode cL_bodyOf 3 = .ok (.invokevirtual 64, 3) := by decide +kernel
theorem dL_bodyOf_6 : decode cL_bodyOf 6 = .ok (.i2l, 1) := by decide +kernel
theorem dL_bodyOf_7 : decode cL_bodyOf 7 = .ok (.lreturn, 1) := by decide +kernel
theorem dL_bodyOf_8 : decode cL_bodyOf 8 = .ok (.astore_n 3, 1) := by decide +kernel
theorem dL_bodyOf_9 : decode cL_bodyOf 9 = .ok (.ldc2_w 17, 3) := by decide +kernel
theorem dL_bodyOf_12 : decode cL_bodyOf 12 = .ok (.lreturn, 1) := by decide +kernel
theorem dL_bodyOf_13 : decode cL_bodyOf 13 = .ok (.astore_n 3, 1) := by decide +kernel
theorem dL_bodyOf_14 : decode cL_bodyOf 14 = .ok (.ldc2_w 32, 3) := by decide +kernel
theorem dL_bodyOf_17 : decode cL_bodyOf 17 = .ok (.lreturn, 1) := by decide +kernel
theorem dL_sum_0 : decode cL_sum 0 = .ok (.aload_n 0, 1) := by decide +kernel
theorem dL_sum_1 : decode cL_sum 1 = .ok (.iload_n 1, 1) := by decide +kernel
theorem dL_sum_2 : decode cL_sum 2 = .ok (.invokevirtual 67, 3) := by decide +kernel
theorem dL_sum_5 : decode cL_sum 5 = .ok (.lreturn, 1) := by decide +kernel
theorem dL_sum_6 : decode cL_sum 6 = .ok (.astore_n 2, 1) := by decide +kernel
theorem dL_sum_7 : decode cL_sum 7 = .ok (.ldc2_w 32, 3) := by decide +kernel
theorem dL_sum_10 : decode cL_sum 10 = .ok (.lreturn, 1) := by decide +kernel
theorem dL_average_0 : decode cL_average 0 = .ok (.aload_n 0, 1) := by decide +kernel
theorem dL_average_1 : decode cL_average 1 = .ok (.iload_n 1, 1) := by decide +kernel
theorem dL_average_2 : decode cL_average 2 = .ok (.iload_n 2, 1) := by decide +kernel
theorem dL_average_3 : decode cL_average 3 = .ok (.iload_n 3, 1) := by decide +kernel
theorem dL_average_4 : decode cL_average 4 = .ok (.iload 4, 2) := by decide +kernel
theorem dL_average_6 : decode cL_average 6 = .ok (.iload 5, 2) := by decide +kernel
theorem dL_average_8 : decode cL_average 8 = .ok (.iload 6, 2) := by decide +kernel
theorem dL_average_10 : decode cL_average 10 = .ok (.invokevirtual 70, 3) := by decide +kernel
theorem dL_average_13 : decode cL_average 13 = .ok (.lreturn, 1) := by decide +kernel
theorem dL_average_14 : decode cL_average 14 = .ok (.astore 7, 2) := by decide +kernel
theorem dL_average_16 : decode cL_average 16 = .ok (.ldc2_w 32, 3) := by decide +kernel
theorem dL_average_19 : decode cL_average 19 = .ok (.lreturn, 1) := by decide +kernel
theorem dL_scatter_0 : decode cL_scatter 0 = .ok (.aload_n 0, 1) := by decide +kernel
theorem dL_scatter_1 : decode cL_scatter 1 = .ok (.iload_n 1, 1) := by decide +kernel
theorem dL_scatter_2 : decode cL_scatter 2 = .ok (.iload_n 2, 1) := by decide +kernel
theorem dL_scatter_3 : decode cL_scatter 3 = .ok (.iload_n 3, 1) := by decide +kernel
theorem dL_scatter_4 : decode cL_scatter 4 = .ok (.iload 4, 2) := by decide +kernel
theorem dL_scatter_6 : decode cL_scatter 6 = .ok (.iload 5, 2) := by decide +kernel
theorem dL_scatter_8 : decode cL_scatter 8 = .ok (.iload 6, 2) := by decide +kernel
theorem dL_scatter_10 : decode cL_scatter 10 = .ok (.invokevirtual 74, 3) := by decide +kernel
theorem dL_scatter_13 : decode cL_scatter 13 = .ok (.lreturn, 1) := by decide +kernel
theorem dL_scatter_14 : decode cL_scatter 14 = .ok (.astore 7, 2) := by decide +kernel
theorem dL_scatter_16 : decode cL_scatter 16 = .ok (.ldc2_w 32, 3) := by decide +kernel
theorem dL_scatter_19 : decode cL_scatter 19 = .ok (.lreturn, 1) := by decide +kernel
theorem dL_ahead_0 : decode cL_ahead 0 = .ok (.aload_n 0, 1) := by decide +kernel
theorem dL_ahead_1 : decode cL_ahead 1 = .ok (.iload_n 1, 1) := by decide +kernel
theorem dL_ahead_2 : decode cL_ahead 2 = .ok (.iload_n 2, 1) := by decide +kernel
theorem dL_ahead_3 : decode cL_ahead 3 = .ok (.invokevirtual 77, 3) := by decide +kernel
theorem dL_ahead_6 : decode cL_ahead 6 = .ok (.i2l, 1) := by decide +kernel
theorem dL_ahead_7 : decode cL_ahead 7 = .ok (.lreturn, 1) := by decide +kernel
theorem dL_ahead_8 : decode cL_ahead 8 = .ok (.astore_n 3, 1) := by decide +kernel
theorem dL_ahead_9 : decode cL_ahead 9 = .ok (.ldc2_w 17, 3) := by decide +kernel
theorem dL_ahead_12 : decode cL_ahead 12 = .ok (.lreturn, 1) := by decide +kernel
theorem dL_ahead_13 : decode cL_ahead 13 = .ok (.astore_n 3, 1) := by decide +kernel
theorem dL_ahead_14 : decode cL_ahead 14 = .ok (.ldc2_w 32, 3) := by decide +kernel
theorem dL_ahead_17 : decode cL_ahead 17 = .ok (.lreturn, 1) := by decide +kernel
theorem dL_aheadAnew_0 : decode cL_aheadAnew 0 = .ok (.aload_n 0, 1) := by decide +kernel
theorem dL_aheadAnew_1 : decode cL_aheadAnew 1 = .ok (.iload_n 1, 1) := by decide +kernel
theorem dL_aheadAnew_2 : decode cL_aheadAnew 2 = .ok (.iload_n 2, 1) := by decide +kernel
theorem dL_aheadAnew_3 : decode cL_aheadAnew 3 = .ok (.invokevirtual 80, 3) := by decide +kernel
theorem dL_aheadAnew_6 : decode cL_aheadAnew 6 = .ok (.i2l, 1) := by decide +kernel
theorem dL_aheadAnew_7 : decode cL_aheadAnew 7 = .ok (.lreturn, 1) := by decide +kernel
theorem dL_aheadAnew_8 : decode cL_aheadAnew 8 = .ok (.astore_n 3, 1) := by decide +kernel
theorem dL_aheadAnew_9 : decode cL_aheadAnew 9 = .ok (.ldc2_w 17, 3) := by decide +kernel
theorem dL_aheadAnew_12 : decode cL_aheadAnew 12 = .ok (.lreturn, 1) := by decide +kernel
theorem dL_aheadAnew_13 : decode cL_aheadAnew 13 = .ok (.astore_n 3, 1) := by decide +kernel
theorem dL_aheadAnew_14 : decode cL_aheadAnew 14 = .ok (.ldc2_w 32, 3) := by decide +kernel
theorem dL_aheadAnew_17 : decode cL_aheadAnew 17 = .ok (.lreturn, 1) := by decide +kernel
theorem dL_mixed_0 : decode cL_mixed 0 = .ok (.aload_n 0, 1) := by decide +kernel
theorem dL_mixed_1 : decode cL_mixed 1 = .ok (.iload_n 1, 1) := by decide +kernel
theorem dL_mixed_2 : decode cL_mixed 2 = .ok (.invokevirtual 83, 3) := by decide +kernel
theorem dL_mixed_5 : decode cL_mixed 5 = .ok (.lreturn, 1) := by decide +kernel
theorem dL_mixed_6 : decode cL_mixed 6 = .ok (.astore_n 2, 1) := by decide +kernel
theorem dL_mixed_7 : decode cL_mixed 7 = .ok (.ldc2_w 32, 3) := by decide +kernel
theorem dL_mixed_10 : decode cL_mixed 10 = .ok (.lreturn, 1) := by decide +kernel
theorem dL_record_0 : decode cL_record 0 = .ok (.aload_n 0, 1) := by decide +kernel
theorem dL_record_1 : decode cL_record 1 = .ok (.iload_n 1, 1) := by decide +kernel
theorem dL_record_2 : decode cL_record 2 = .ok (.iload_n 2, 1) := by decide +kernel
theorem dL_record_3 : decode cL_record 3 = .ok (.invokevirtual 86, 3) := by decide +kernel
theorem dL_record_6 : decode cL_record 6 = .ok (.i2l, 1) := by decide +kernel
theorem dL_record_7 : decode cL_record 7 = .ok (.lreturn, 1) := by decide +kernel
theorem dL_record_8 : decode cL_record 8 = .ok (.astore_n 3, 1) := by decide +kernel
theorem dL_record_9 : decode cL_record 9 = .ok (.ldc2_w 17, 3) := by decide +kernel
theorem dL_record_12 : decode cL_record 12 = .ok (.lreturn, 1) := by decide +kernel
theorem dL_beat_0 : decode cL_beat 0 = .ok (.aload_n 0, 1) := by decide +kernel
theorem dL_beat_1 : decode cL_beat 1 = .ok (.iload_n 1, 1) := by decide +kernel
theorem dL_beat_2 : decode cL_beat 2 = .ok (.invokevirtual 89, 3) := by decide +kernel
theorem dL_beat_5 : decode cL_beat 5 = .ok (.i2l, 1) := by decide +kernel
theorem dL_beat_6 : decode cL_beat 6 = .ok (.lreturn, 1) := by decide +kernel
theorem dL_beat_7 : decode cL_beat 7 = .ok (.astore_n 2, 1) := by decide +kernel
theorem dL_beat_8 : decode cL_beat 8 = .ok (.ldc2_w 17, 3) := by decide +kernel
theorem dL_beat_11 : decode cL_beat 11 = .ok (.lreturn, 1) := by decide +kernel
theorem dL_better_0 : decode cL_better 0 = .ok (.aload_n 0, 1) := by decide +kernel
theorem dL_better_1 : decode cL_better 1 = .ok (.iload_n 1, 1) := by decide +kernel
theorem dL_better_2 : decode cL_better 2 = .ok (.iload_n 2, 1) := by decide +kernel
theorem dL_better_3 : decode cL_better 3 = .ok (.invokevirtual 92, 3) := by decide +kernel
theorem dL_better_6 : decode cL_better 6 = .ok (.i2l, 1) := by decide +kernel
theorem dL_better_7 : decode cL_better 7 = .ok (.lreturn, 1) := by decide +kernel
theorem dL_better_8 : decode cL_better 8 = .ok (.astore_n 3, 1) := by decide +kernel
theorem dL_better_9 : decode cL_better 9 = .ok (.ldc2_w 17, 3) := by decide +kernel
theorem dL_better_12 : decode cL_better 12 = .ok (.lreturn, 1) := by decide +kernel
theorem dL_better_13 : decode cL_better 13 = .ok (.astore_n 3, 1) := by decide +kernel
theorem dL_better_14 : decode cL_better 14 = .ok (.ldc2_w 32, 3) := by decide +kernel
theorem dL_better_17 : decode cL_better 17 = .ok (.lreturn, 1) := by decide +kernel
theorem dL_mark_0 : decode cL_mark 0 = .ok (.ldc2_w 95, 3) := by decide +kernel
theorem dL_mark_3 : decode cL_mark 3 = .ok (.lstore_n 1, 1) := by decide +kernel
theorem dL_mark_4 : decode cL_mark 4 = .ok (.iconst 0, 1) := by decide +kernel
theorem dL_mark_5 : decode cL_mark 5 = .ok (.istore_n 3, 1) := by decide +kernel
theorem dL_mark_6 : decode cL_mark 6 = .ok (.iload_n 3, 1) := by decide +kernel
theorem dL_mark_7 : decode cL_mark 7 = .ok (.bipush 96, 2) := by decide +kernel
theorem dL_mark_9 : decode cL_mark 9 = .ok (.if_icmp .ge 44, 3) := by decide +kernel
theorem dL_mark_12 : decode cL_mark 12 = .ok (.ldc2_w 97, 3) := by decide +kernel
theorem dL_mark_15 : decode cL_mark 15 = .ok (.lload_n 1, 1) := by decide +kernel
theorem dL_mark_16 : decode cL_mark 16 = .ok (.lmul, 1) := by decide +kernel
theorem dL_mark_17 : decode cL_mark 17 = .ok (.ldc2_w 99, 3) := by decide +kernel
theorem dL_mark_20 : decode cL_mark 20 = .ok (.aload_n 0, 1) := by decide +kernel
theorem dL_mark_21 : decode cL_mark 21 = .ok (.iload_n 3, 1) := by decide +kernel
theorem dL_mark_22 : decode cL_mark 22 = .ok (.iconst 0, 1) := by decide +kernel
theorem dL_mark_23 : decode cL_mark 23 = .ok (.invokestatic 101, 3) := by decide +kernel
theorem dL_mark_26 : decode cL_mark 26 = .ok (.lmul, 1) := by decide +kernel
theorem dL_mark_27 : decode cL_mark 27 = .ok (.ladd, 1) := by decide +kernel
theorem dL_mark_28 : decode cL_mark 28 = .ok (.ldc2_w 106, 3) := by decide +kernel
theorem dL_mark_31 : decode cL_mark 31 = .ok (.aload_n 0, 1) := by decide +kernel
theorem dL_mark_32 : decode cL_mark 32 = .ok (.iload_n 3, 1) := by decide +kernel
theorem dL_mark_33 : decode cL_mark 33 = .ok (.iconst 2, 1) := by decide +kernel
theorem dL_mark_34 : decode cL_mark 34 = .ok (.invokestatic 101, 3) := by decide +kernel
theorem dL_mark_37 : decode cL_mark 37 = .ok (.lmul, 1) := by decide +kernel
theorem dL_mark_38 : decode cL_mark 38 = .ok (.ladd, 1) := by decide +kernel
theorem dL_mark_39 : decode cL_mark 39 = .ok (.aload_n 0, 1) := by decide +kernel
theorem dL_mark_40 : decode cL_mark 40 = .ok (.iload_n 3, 1) := by decide +kernel
theorem dL_mark_41 : decode cL_mark 41 = .ok (.iconst 3, 1) := by decide +kernel
theorem dL_mark_42 : decode cL_mark 42 = .ok (.invokestatic 101, 3) := by decide +kernel
theorem dL_mark_45 : decode cL_mark 45 = .ok (.ladd, 1) := by decide +kernel
theorem dL_mark_46 : decode cL_mark 46 = .ok (.lstore_n 1, 1) := by decide +kernel
theorem dL_mark_47 : decode cL_mark 47 = .ok (.iinc 3 1, 3) := by decide +kernel
theorem dL_mark_50 : decode cL_mark 50 = .ok (.goto (-44), 3) := by decide +kernel
theorem dL_mark_53 : decode cL_mark 53 = .ok (.iconst 0, 1) := by decide +kernel
theorem dL_mark_54 : decode cL_mark 54 = .ok (.istore_n 3, 1) := by decide +kernel
theorem dL_mark_55 : decode cL_mark 55 = .ok (.iload_n 3, 1) := by decide +kernel
theorem dL_mark_56 : decode cL_mark 56 = .ok (.iconst 4, 1) := by decide +kernel
theorem dL_mark_57 : decode cL_mark 57 = .ok (.if_icmp .ge 44, 3) := by decide +kernel
theorem dL_mark_60 : decode cL_mark 60 = .ok (.ldc2_w 97, 3) := by decide +kernel
theorem dL_mark_63 : decode cL_mark 63 = .ok (.lload_n 1, 1) := by decide +kernel
theorem dL_mark_64 : decode cL_mark 64 = .ok (.lmul, 1) := by decide +kernel
theorem dL_mark_65 : decode cL_mark 65 = .ok (.ldc2_w 108, 3) := by decide +kernel
theorem dL_mark_68 : decode cL_mark 68 = .ok (.aload_n 0, 1) := by decide +kernel
theorem dL_mark_69 : decode cL_mark 69 = .ok (.iload_n 3, 1) := by decide +kernel
theorem dL_mark_70 : decode cL_mark 70 = .ok (.iconst 1, 1) := by decide +kernel
theorem dL_mark_71 : decode cL_mark 71 = .ok (.invokestatic 110, 3) := by decide +kernel
theorem dL_mark_74 : decode cL_mark 74 = .ok (.lmul, 1) := by decide +kernel
theorem dL_mark_75 : decode cL_mark 75 = .ok (.ladd, 1) := by decide +kernel
theorem dL_mark_76 : decode cL_mark 76 = .ok (.ldc2_w 112, 3) := by decide +kernel
theorem dL_mark_79 : decode cL_mark 79 = .ok (.aload_n 0, 1) := by decide +kernel
theorem dL_mark_80 : decode cL_mark 80 = .ok (.iload_n 3, 1) := by decide +kernel
theorem dL_mark_81 : decode cL_mark 81 = .ok (.iconst 2, 1) := by decide +kernel
theorem dL_mark_82 : decode cL_mark 82 = .ok (.invokestatic 110, 3) := by decide +kernel
theorem dL_mark_85 : decode cL_mark 85 = .ok (.lmul, 1) := by decide +kernel
theorem dL_mark_86 : decode cL_mark 86 = .ok (.ladd, 1) := by decide +kernel
theorem dL_mark_87 : decode cL_mark 87 = .ok (.aload_n 0, 1) := by decide +kernel
theorem dL_mark_88 : decode cL_mark 88 = .ok (.iload_n 3, 1) := by decide +kernel
theorem dL_mark_89 : decode cL_mark 89 = .ok (.iconst 3, 1) := by decide +kernel
theorem dL_mark_90 : decode cL_mark 90 = .ok (.invokestatic 110, 3) := by decide +kernel
theorem dL_mark_93 : decode cL_mark 93 = .ok (.ladd, 1) := by decide +kernel
theorem dL_mark_94 : decode cL_mark 94 = .ok (.lstore_n 1, 1) := by decide +kernel
theorem dL_mark_95 : decode cL_mark 95 = .ok (.iinc 3 1, 3) := by decide +kernel
theorem dL_mark_98 : decode cL_mark 98 = .ok (.goto (-43), 3) := by decide +kernel
theorem dL_mark_101 : decode cL_mark 101 = .ok (.ldc2_w 97, 3) := by decide +kernel
theorem dL_mark_104 : decode cL_mark 104 = .ok (.lload_n 1, 1) := by decide +kernel
theorem dL_mark_105 : decode cL_mark 105 = .ok (.lmul, 1) := by decide +kernel
theorem dL_mark_106 : decode cL_mark 106 = .ok (.aload_n 0, 1) := by decide +kernel
theorem dL_mark_107 : decode cL_mark 107 = .ok (.bipush 6, 2) := by decide +kernel
theorem dL_mark_109 : decode cL_mark 109 = .ok (.invokestatic 114, 3) := by decide +kernel
theorem dL_mark_112 : decode cL_mark 112 = .ok (.ladd, 1) := by decide +kernel
theorem dL_mark_113 : decode cL_mark 113 = .ok (.lreturn, 1) := by decide +kernel
theorem dL_sumsHold_0 : decode cL_sumsHold 0 = .ok (.lconst 0, 1) := by decide +kernel
theorem dL_sumsHold_1 : decode cL_sumsHold 1 = .ok (.lstore_n 1, 1) := by decide +kernel
theorem dL_sumsHold_2 : decode cL_sumsHold 2 = .ok (.lconst 0, 1) := by decide +kernel
theorem dL_sumsHold_3 : decode cL_sumsHold 3 = .ok (.lstore_n 3, 1) := by decide +kernel
theorem dL_sumsHold_4 : decode cL_sumsHold 4 = .ok (.lconst 0, 1) := by decide +kernel
theorem dL_sumsHold_5 : decode cL_sumsHold 5 = .ok (.lstore 5, 2) := by decide +kernel
theorem dL_sumsHold_7 : decode cL_sumsHold 7 = .ok (.lconst 0, 1) := by decide +kernel
theorem dL_sumsHold_8 : decode cL_sumsHold 8 = .ok (.lstore 7, 2) := by decide +kernel
theorem dL_sumsHold_10 : decode cL_sumsHold 10 = .ok (.lconst 0, 1) := by decide +kernel
theorem dL_sumsHold_11 : decode cL_sumsHold 11 = .ok (.lstore 9, 2) := by decide +kernel
theorem dL_sumsHold_13 : decode cL_sumsHold 13 = .ok (.iconst 1, 1) := by decide +kernel
theorem dL_sumsHold_14 : decode cL_sumsHold 14 = .ok (.istore 11, 2) := by decide +kernel
theorem dL_sumsHold_16 : decode cL_sumsHold 16 = .ok (.iconst 0, 1) := by decide +kernel
theorem dL_sumsHold_17 : decode cL_sumsHold 17 = .ok (.istore 12, 2) := by decide +kernel
theorem dL_sumsHold_19 : decode cL_sumsHold 19 = .ok (.iload 12, 2) := by decide +kernel
theorem dL_sumsHold_21 : decode cL_sumsHold 21 = .ok (.bipush 96, 2) := by decide +kernel
theorem dL_sumsHold_23 : decode cL_sumsHold 23 = .ok (.if_icmp .ge 239, 3) := by decide +kernel
theorem dL_sumsHold_26 : decode cL_sumsHold 26 = .ok (.iload 11, 2) := by decide +kernel
theorem dL_sumsHold_28 : decode cL_sumsHold 28 = .ok (.ifCond .eq 234, 3) := by decide +kernel
theorem dL_sumsHold_31 : decode cL_sumsHold 31 = .ok (.aload_n 0, 1) := by decide +kernel
theorem dL_sumsHold_32 : decode cL_sumsHold 32 = .ok (.iload 12, 2) := by decide +kernel
theorem dL_sumsHold_34 : decode cL_sumsHold 34 = .ok (.iconst 2, 1) := by decide +kernel
theorem dL_sumsHold_35 : decode cL_sumsHold 35 = .ok (.invokestatic 101, 3) := by decide +kernel
theorem dL_sumsHold_38 : decode cL_sumsHold 38 = .ok (.l2i, 1) := by decide +kernel
theorem dL_sumsHold_39 : decode cL_sumsHold 39 = .ok (.istore 13, 2) := by decide +kernel
theorem dL_sumsHold_41 : decode cL_sumsHold 41 = .ok (.aload_n 0, 1) := by decide +kernel
theorem dL_sumsHold_42 : decode cL_sumsHold 42 = .ok (.iload 12, 2) := by decide +kernel
theorem dL_sumsHold_44 : decode cL_sumsHold 44 = .ok (.iconst 3, 1) := by decide +kernel
theorem dL_sumsHold_45 : decode cL_sumsHold 45 = .ok (.invokestatic 101, 3) := by decide +kernel
theorem dL_sumsHold_48 : decode cL_sumsHold 48 = .ok (.l2i, 1) := by decide +kernel
theorem dL_sumsHold_49 : decode cL_sumsHold 49 = .ok (.istore 14, 2) := by decide +kernel
theorem dL_sumsHold_51 : decode cL_sumsHold 51 = .ok (.aload_n 0, 1) := by decide +kernel
theorem dL_sumsHold_52 : decode cL_sumsHold 52 = .ok (.iload 12, 2) := by decide +kernel
theorem dL_sumsHold_54 : decode cL_sumsHold 54 = .ok (.iconst 0, 1) := by decide +kernel
theorem dL_sumsHold_55 : decode cL_sumsHold 55 = .ok (.invokestatic 101, 3) := by decide +kernel
theorem dL_sumsHold_58 : decode cL_sumsHold 58 = .ok (.lconst 1, 1) := by decide +kernel
theorem dL_sumsHold_59 : decode cL_sumsHold 59 = .ok (.lcmp, 1) := by decide +kernel
theorem dL_sumsHold_60 : decode cL_sumsHold 60 = .ok (.ifCond .ne 7, 3) := by decide +kernel
theorem dL_sumsHold_63 : decode cL_sumsHold 63 = .ok (.iconst 1, 1) := by decide +kernel
theorem dL_sumsHold_64 : decode cL_sumsHold 64 = .ok (.goto 4, 3) := by decide +kernel
theorem dL_sumsHold_67 : decode cL_sumsHold 67 = .ok (.iconst 0, 1) := by decide +kernel
theorem dL_sumsHold_68 : decode cL_sumsHold 68 = .ok (.istore 15, 2) := by decide +kernel
theorem dL_sumsHold_70 : decode cL_sumsHold 70 = .ok (.iconst 0, 1) := by decide +kernel
theorem dL_sumsHold_71 : decode cL_sumsHold 71 = .ok (.istore 16, 2) := by decide +kernel
theorem dL_sumsHold_73 : decode cL_sumsHold 73 = .ok (.iload 16, 2) := by decide +kernel
theorem dL_sumsHold_75 : decode cL_sumsHold 75 = .ok (.iconst 4, 1) := by decide +kernel
theorem dL_sumsHold_76 : decode cL_sumsHold 76 = .ok (.if_icmp .ge 93, 3) := by decide +kernel
theorem dL_sumsHold_79 : decode cL_sumsHold 79 = .ok (.lload_n 1, 1) := by decide +kernel
theorem dL_sumsHold_80 : decode cL_sumsHold 80 = .ok (.iload 13, 2) := by decide +kernel
theorem dL_sumsHold_82 : decode cL_sumsHold 82 = .ok (.iload 16, 2) := by decide +kernel
theorem dL_sumsHold_84 : decode cL_sumsHold 84 = .ok (.ishr, 1) := by decide +kernel
theorem dL_sumsHold_85 : decode cL_sumsHold 85 = .ok (.iconst 1, 1) := by decide +kernel
theorem dL_sumsHold_86 : decode cL_sumsHold 86 = .ok (.iand, 1) := by decide +kernel
theorem dL_sumsHold_87 : decode cL_sumsHold 87 = .ok (.i2l, 1) := by decide +kernel
theorem dL_sumsHold_88 : decode cL_sumsHold 88 = .ok (.ladd, 1) := by decide +kernel
theorem dL_sumsHold_89 : decode cL_sumsHold 89 = .ok (.lstore_n 1, 1) := by decide +kernel
theorem dL_sumsHold_90 : decode cL_sumsHold 90 = .ok (.lload_n 3, 1) := by decide +kernel
theorem dL_sumsHold_91 : decode cL_sumsHold 91 = .ok (.iload 14, 2) := by decide +kernel
theorem dL_sumsHold_93 : decode cL_sumsHold 93 = .ok (.iload 16, 2) := by decide +kernel
theorem dL_sumsHold_95 : decode cL_sumsHold 95 = .ok (.ishr, 1) := by decide +kernel
theorem dL_sumsHold_96 : decode cL_sumsHold 96 = .ok (.iconst 1, 1) := by decide +kernel
theorem dL_sumsHold_97 : decode cL_sumsHold 97 = .ok (.iand, 1) := by decide +kernel
theorem dL_sumsHold_98 : decode cL_sumsHold 98 = .ok (.i2l, 1) := by decide +kernel
theorem dL_sumsHold_99 : decode cL_sumsHold 99 = .ok (.ladd, 1) := by decide +kernel
theorem dL_sumsHold_100 : decode cL_sumsHold 100 = .ok (.lstore_n 3, 1) := by decide +kernel
theorem dL_sumsHold_101 : decode cL_sumsHold 101 = .ok (.lload 5, 2) := by decide +kernel
theorem dL_sumsHold_103 : decode cL_sumsHold 103 = .ok (.aload_n 0, 1) := by decide +kernel
theorem dL_sumsHold_104 : decode cL_sumsHold 104 = .ok (.iload 12, 2) := by decide +kernel
theorem dL_sumsHold_106 : decode cL_sumsHold 106 = .ok (.iconst 4, 1) := by decide +kernel
theorem dL_sumsHold_107 : decode cL_sumsHold 107 = .ok (.iload 16, 2) := by decide +kernel
theorem dL_sumsHold_109 : decode cL_sumsHold 109 = .ok (.iadd, 1) := by decide +kernel
theorem dL_sumsHold_110 : decode cL_sumsHold 110 = .ok (.invokestatic 101, 3) := by decide +kernel
theorem dL_sumsHold_113 : decode cL_sumsHold 113 = .ok (.ladd, 1) := by decide +kernel
theorem dL_sumsHold_114 : decode cL_sumsHold 114 = .ok (.lstore 5, 2) := by decide +kernel
theorem dL_sumsHold_116 : decode cL_sumsHold 116 = .ok (.iload 11, 2) := by decide +kernel
theorem dL_sumsHold_118 : decode cL_sumsHold 118 = .ok (.ifCond .eq 42, 3) := by decide +kernel
theorem dL_sumsHold_121 : decode cL_sumsHold 121 = .ok (.iload 15, 2) := by decide +kernel
theorem dL_sumsHold_123 : decode cL_sumsHold 123 = .ok (.ifCond .eq 18, 3) := by decide +kernel
theorem dL_sumsHold_126 : decode cL_sumsHold 126 = .ok (.aload_n 0, 1) := by decide +kernel
theorem dL_sumsHold_127 : decode cL_sumsHold 127 = .ok (.iload 12, 2) := by decide +kernel
theorem dL_sumsHold_129 : decode cL_sumsHold 129 = .ok (.iconst 4, 1) := by decide +kernel
theorem dL_sumsHold_130 : decode cL_sumsHold 130 = .ok (.iload 16, 2) := by decide +kernel
theorem dL_sumsHold_132 : decode cL_sumsHold 132 = .ok (.iadd, 1) := by decide +kernel
theorem dL_sumsHold_133 : decode cL_sumsHold 133 = .ok (.invokestatic 101, 3) := by decide +kernel
theorem dL_sumsHold_136 : decode cL_sumsHold 136 = .ok (.lconst 0, 1) := by decide +kernel
theorem dL_sumsHold_137 : decode cL_sumsHold 137 = .ok (.lcmp, 1) := by decide +kernel
theorem dL_sumsHold_138 : decode cL_sumsHold 138 = .ok (.ifCond .ne 22, 3) := by decide +kernel
theorem dL_sumsHold_141 : decode cL_sumsHold 141 = .ok (.aload_n 0, 1) := by decide +kernel
theorem dL_sumsHold_142 : decode cL_sumsHold 142 = .ok (.iload 12, 2) := by decide +kernel
theorem dL_sumsHold_144 : decode cL_sumsHold 144 = .ok (.iconst 4, 1) := by decide +kernel
theorem dL_sumsHold_145 : decode cL_sumsHold 145 = .ok (.iload 16, 2) := by decide +kernel
theorem dL_sumsHold_147 : decode cL_sumsHold 147 = .ok (.iadd, 1) := by decide +kernel
theorem dL_sumsHold_148 : decode cL_sumsHold 148 = .ok (.invokestatic 101, 3) := by decide +kernel
theorem dL_sumsHold_151 : decode cL_sumsHold 151 = .ok (.lconst 0, 1) := by decide +kernel
theorem dL_sumsHold_152 : decode cL_sumsHold 152 = .ok (.lcmp, 1) := by decide +kernel
theorem dL_sumsHold_153 : decode cL_sumsHold 153 = .ok (.ifCond .lt 7, 3) := by decide +kernel
theorem dL_sumsHold_156 : decode cL_sumsHold 156 = .ok (.iconst 1, 1) := by decide +kernel
theorem dL_sumsHold_157 : decode cL_sumsHold 157 = .ok (.goto 4, 3) := by decide +kernel
theorem dL_sumsHold_160 : decode cL_sumsHold 160 = .ok (.iconst 0, 1) := by decide +kernel
theorem dL_sumsHold_161 : decode cL_sumsHold 161 = .ok (.istore 11, 2) := by decide +kernel
theorem dL_sumsHold_163 : decode cL_sumsHold 163 = .ok (.iinc 16 1, 3) := by decide +kernel
theorem dL_sumsHold_166 : decode cL_sumsHold 166 = .ok (.goto (-93), 3) := by decide +kernel
theorem dL_sumsHold_169 : decode cL_sumsHold 169 = .ok (.lload 7, 2) := by decide +kernel
theorem dL_sumsHold_171 : decode cL_sumsHold 171 = .ok (.iload 13, 2) := by decide +kernel
theorem dL_sumsHold_173 : decode cL_sumsHold 173 = .ok (.iconst 1, 1) := by decide +kernel
theorem dL_sumsHold_174 : decode cL_sumsHold 174 = .ok (.iand, 1) := by decide +kernel
theorem dL_sumsHold_175 : decode cL_sumsHold 175 = .ok (.iload 13, 2) := by decide +kernel
theorem dL_sumsHold_177 : decode cL_sumsHold 177 = .ok (.iconst 2, 1) := by decide +kernel
theorem dL_sumsHold_178 : decode cL_sumsHold 178 = .ok (.ishr, 1) := by decide +kernel
theorem dL_sumsHold_179 : decode cL_sumsHold 179 = .ok (.iconst 1, 1) := by decide +kernel
theorem dL_sumsHold_180 : decode cL_sumsHold 180 = .ok (.iand, 1) := by decide +kernel
theorem dL_sumsHold_181 : decode cL_sumsHold 181 = .ok (.isub, 1) := by decide +kernel
theorem dL_sumsHold_182 : decode cL_sumsHold 182 = .ok (.i2l, 1) := by decide +kernel
theorem dL_sumsHold_183 : decode cL_sumsHold 183 = .ok (.ladd, 1) := by decide +kernel
theorem dL_sumsHold_184 : decode cL_sumsHold 184 = .ok (.lstore 7, 2) := by decide +kernel
theorem dL_sumsHold_186 : decode cL_sumsHold 186 = .ok (.lload 9, 2) := by decide +kernel
theorem dL_sumsHold_188 : decode cL_sumsHold 188 = .ok (.iload 13, 2) := by decide +kernel
theorem dL_sumsHold_190 : decode cL_sumsHold 190 = .ok (.iconst 1, 1) := by decide +kernel
theorem dL_sumsHold_191 : decode cL_sumsHold 191 = .ok (.ishr, 1) := by decide +kernel
theorem dL_sumsHold_192 : decode cL_sumsHold 192 = .ok (.iconst 1, 1) := by decide +kernel
theorem dL_sumsHold_193 : decode cL_sumsHold 193 = .ok (.iand, 1) := by decide +kernel
theorem dL_sumsHold_194 : decode cL_sumsHold 194 = .ok (.iload 13, 2) := by decide +kernel
theorem dL_sumsHold_196 : decode cL_sumsHold 196 = .ok (.iconst 3, 1) := by decide +kernel
theorem dL_sumsHold_197 : decode cL_sumsHold 197 = .ok (.ishr, 1) := by decide +kernel
theorem dL_sumsHold_198 : decode cL_sumsHold 198 = .ok (.iconst 1, 1) := by decide +kernel
theorem dL_sumsHold_199 : decode cL_sumsHold 199 = .ok (.iand, 1) := by decide +kernel
theorem dL_sumsHold_200 : decode cL_sumsHold 200 = .ok (.isub, 1) := by decide +kernel
theorem dL_sumsHold_201 : decode cL_sumsHold 201 = .ok (.i2l, 1) := by decide +kernel
theorem dL_sumsHold_202 : decode cL_sumsHold 202 = .ok (.ladd, 1) := by decide +kernel
theorem dL_sumsHold_203 : decode cL_sumsHold 203 = .ok (.lstore 9, 2) := by decide +kernel
theorem dL_sumsHold_205 : decode cL_sumsHold 205 = .ok (.iload 11, 2) := by decide +kernel
theorem dL_sumsHold_207 : decode cL_sumsHold 207 = .ok (.ifCond .eq 46, 3) := by decide +kernel
theorem dL_sumsHold_210 : decode cL_sumsHold 210 = .ok (.iload 14, 2) := by decide +kernel
theorem dL_sumsHold_212 : decode cL_sumsHold 212 = .ok (.iload 13, 2) := by decide +kernel
theorem dL_sumsHold_214 : decode cL_sumsHold 214 = .ok (.iconst (-1), 1) := by decide +kernel
theorem dL_sumsHold_215 : decode cL_sumsHold 215 = .ok (.ixor, 1) := by decide +kernel
theorem dL_sumsHold_216 : decode cL_sumsHold 216 = .ok (.iand, 1) := by decide +kernel
theorem dL_sumsHold_217 : decode cL_sumsHold 217 = .ok (.ifCond .ne 36, 3) := by decide +kernel
theorem dL_sumsHold_220 : decode cL_sumsHold 220 = .ok (.iload 15, 2) := by decide +kernel
theorem dL_sumsHold_222 : decode cL_sumsHold 222 = .ok (.ifCond .eq 8, 3) := by decide +kernel
theorem dL_sumsHold_225 : decode cL_sumsHold 225 = .ok (.iload 13, 2) := by decide +kernel
theorem dL_sumsHold_227 : decode cL_sumsHold 227 = .ok (.ifCond .ne 26, 3) := by decide +kernel
theorem dL_sumsHold_230 : decode cL_sumsHold 230 = .ok (.iload 15, 2) := by decide +kernel
theorem dL_sumsHold_232 : decode cL_sumsHold 232 = .ok (.ifCond .ne 17, 3) := by decide +kernel
theorem dL_sumsHold_235 : decode cL_sumsHold 235 = .ok (.aload_n 0, 1) := by decide +kernel
theorem dL_sumsHold_236 : decode cL_sumsHold 236 = .ok (.iload 12, 2) := by decide +kernel
theorem dL_sumsHold_238 : decode cL_sumsHold 238 = .ok (.iconst 1, 1) := by decide +kernel
theorem dL_sumsHold_239 : decode cL_sumsHold 239 = .ok (.invokestatic 101, 3) := by decide +kernel
theorem dL_sumsHold_242 : decode cL_sumsHold 242 = .ok (.ldc2_w 117, 3) := by decide +kernel
theorem dL_sumsHold_245 : decode cL_sumsHold 245 = .ok (.lcmp, 1) := by decide +kernel
theorem dL_sumsHold_246 : decode cL_sumsHold 246 = .ok (.ifCond .ne 7, 3) := by decide +kernel
theorem dL_sumsHold_249 : decode cL_sumsHold 249 = .ok (.iconst 1, 1) := by decide +kernel
theorem dL_sumsHold_250 : decode cL_sumsHold 250 = .ok (.goto 4, 3) := by decide +kernel
theorem dL_sumsHold_253 : decode cL_sumsHold 253 = .ok (.iconst 0, 1) := by decide +kernel
theorem dL_sumsHold_254 : decode cL_sumsHold 254 = .ok (.istore 11, 2) := by decide +kernel
theorem dL_sumsHold_256 : decode cL_sumsHold 256 = .ok (.iinc 12 1, 3) := by decide +kernel
theorem dL_sumsHold_259 : decode cL_sumsHold 259 = .ok (.goto (-240), 3) := by decide +kernel
theorem dL_sumsHold_262 : decode cL_sumsHold 262 = .ok (.iload 11, 2) := by decide +kernel
theorem dL_sumsHold_264 : decode cL_sumsHold 264 = .ok (.ifCond .eq 119, 3) := by decide +kernel
theorem dL_sumsHold_267 : decode cL_sumsHold 267 = .ok (.aload_n 0, 1) := by decide +kernel
theorem dL_sumsHold_268 : decode cL_sumsHold 268 = .ok (.iconst 2, 1) := by decide +kernel
theorem dL_sumsHold_269 : decode cL_sumsHold 269 = .ok (.invokestatic 114, 3) := by decide +kernel
theorem dL_sumsHold_272 : decode cL_sumsHold 272 = .ok (.lload_n 1, 1) := by decide +kernel
theorem dL_sumsHold_273 : decode cL_sumsHold 273 = .ok (.lcmp, 1) := by decide +kernel
theorem dL_sumsHold_274 : decode cL_sumsHold 274 = .ok (.ifCond .ne 109, 3) := by decide +kernel
theorem dL_sumsHold_277 : decode cL_sumsHold 277 = .ok (.aload_n 0, 1) := by decide +kernel
theorem dL_sumsHold_278 : decode cL_sumsHold 278 = .ok (.iconst 3, 1) := by decide +kernel
theorem dL_sumsHold_279 : decode cL_sumsHold 279 = .ok (.invokestatic 114, 3) := by decide +kernel
theorem dL_sumsHold_282 : decode cL_sumsHold 282 = .ok (.lload_n 3, 1) := by decide +kernel
theorem dL_sumsHold_283 : decode cL_sumsHold 283 = .ok (.lcmp, 1) := by decide +kernel
theorem dL_sumsHold_284 : decode cL_sumsHold 284 = .ok (.ifCond .ne 99, 3) := by decide +kernel
theorem dL_sumsHold_287 : decode cL_sumsHold 287 = .ok (.aload_n 0, 1) := by decide +kernel
theorem dL_sumsHold_288 : decode cL_sumsHold 288 = .ok (.bipush 7, 2) := by decide +kernel
theorem dL_sumsHold_290 : decode cL_sumsHold 290 = .ok (.invokestatic 114, 3) := by decide +kernel
theorem dL_sumsHold_293 : decode cL_sumsHold 293 = .ok (.lload 5, 2) := by decide +kernel
theorem dL_sumsHold_295 : decode cL_sumsHold 295 = .ok (.lcmp, 1) := by decide +kernel
theorem dL_sumsHold_296 : decode cL_sumsHold 296 = .ok (.ifCond .ne 87, 3) := by decide +kernel
theorem dL_sumsHold_299 : decode cL_sumsHold 299 = .ok (.aload_n 0, 1) := by decide +kernel
theorem dL_sumsHold_300 : decode cL_sumsHold 300 = .ok (.iconst 4, 1) := by decide +kernel
theorem dL_sumsHold_301 : decode cL_sumsHold 301 = .ok (.invokestatic 114, 3) := by decide +kernel
theorem dL_sumsHold_304 : decode cL_sumsHold 304 = .ok (.lload 7, 2) := by decide +kernel
theorem dL_sumsHold_306 : decode cL_sumsHold 306 = .ok (.lcmp, 1) := by decide +kernel
theorem dL_sumsHold_307 : decode cL_sumsHold 307 = .ok (.ifCond .ne 76, 3) := by decide +kernel
theorem dL_sumsHold_310 : decode cL_sumsHold 310 = .ok (.aload_n 0, 1) := by decide +kernel
theorem dL_sumsHold_311 : decode cL_sumsHold 311 = .ok (.iconst 5, 1) := by decide +kernel
theorem dL_sumsHold_312 : decode cL_sumsHold 312 = .ok (.invokestatic 114, 3) := by decide +kernel
theorem dL_sumsHold_315 : decode cL_sumsHold 315 = .ok (.lload 9, 2) := by decide +kernel
theorem dL_sumsHold_317 : decode cL_sumsHold 317 = .ok (.lcmp, 1) := by decide +kernel
theorem dL_sumsHold_318 : decode cL_sumsHold 318 = .ok (.ifCond .ne 65, 3) := by decide +kernel
theorem dL_sumsHold_321 : decode cL_sumsHold 321 = .ok (.aload_n 0, 1) := by decide +kernel
theorem dL_sumsHold_322 : decode cL_sumsHold 322 = .ok (.iconst 1, 1) := by decide +kernel
theorem dL_sumsHold_323 : decode cL_sumsHold 323 = .ok (.invokevirtual 119, 3) := by decide +kernel
theorem dL_sumsHold_326 : decode cL_sumsHold 326 = .ok (.lconst 0, 1) := by decide +kernel
theorem dL_sumsHold_327 : decode cL_sumsHold 327 = .ok (.lcmp, 1) := by decide +kernel
theorem dL_sumsHold_328 : decode cL_sumsHold 328 = .ok (.ifCond .ne 55, 3) := by decide +kernel
theorem dL_sumsHold_331 : decode cL_sumsHold 331 = .ok (.aload_n 0, 1) := by decide +kernel
theorem dL_sumsHold_332 : decode cL_sumsHold 332 = .ok (.iconst 0, 1) := by decide +kernel
theorem dL_sumsHold_333 : decode cL_sumsHold 333 = .ok (.invokevirtual 119, 3) := by decide +kernel
theorem dL_sumsHold_336 : decode cL_sumsHold 336 = .ok (.lconst 0, 1) := by decide +kernel
theorem dL_sumsHold_337 : decode cL_sumsHold 337 = .ok (.lcmp, 1) := by decide +kernel
theorem dL_sumsHold_338 : decode cL_sumsHold 338 = .ok (.ifCond .ne 45, 3) := by decide +kernel
theorem dL_sumsHold_341 : decode cL_sumsHold 341 = .ok (.aload_n 0, 1) := by decide +kernel
theorem dL_sumsHold_342 : decode cL_sumsHold 342 = .ok (.iconst 0, 1) := by decide +kernel
theorem dL_sumsHold_343 : decode cL_sumsHold 343 = .ok (.invokestatic 123, 3) := by decide +kernel
theorem dL_sumsHold_346 : decode cL_sumsHold 346 = .ok (.lconst 0, 1) := by decide +kernel
theorem dL_sumsHold_347 : decode cL_sumsHold 347 = .ok (.lcmp, 1) := by decide +kernel
theorem dL_sumsHold_348 : decode cL_sumsHold 348 = .ok (.ifCond .lt 35, 3) := by decide +kernel
theorem dL_sumsHold_351 : decode cL_sumsHold 351 = .ok (.lload_n 3, 1) := by decide +kernel
theorem dL_sumsHold_352 : decode cL_sumsHold 352 = .ok (.lconst 0, 1) := by decide +kernel
theorem dL_sumsHold_353 : decode cL_sumsHold 353 = .ok (.lcmp, 1) := by decide +kernel
theorem dL_sumsHold_354 : decode cL_sumsHold 354 = .ok (.ifCond .le 9, 3) := by decide +kernel
theorem dL_sumsHold_357 : decode cL_sumsHold 357 = .ok (.lload_n 3, 1) := by decide +kernel
theorem dL_sumsHold_358 : decode cL_sumsHold 358 = .ok (.lload_n 1, 1) := by decide +kernel
theorem dL_sumsHold_359 : decode cL_sumsHold 359 = .ok (.lcmp, 1) := by decide +kernel
theorem dL_sumsHold_360 : decode cL_sumsHold 360 = .ok (.ifCond .lt 19, 3) := by decide +kernel
theorem dL_sumsHold_363 : decode cL_sumsHold 363 = .ok (.aload_n 0, 1) := by decide +kernel
theorem dL_sumsHold_364 : decode cL_sumsHold 364 = .ok (.iconst 0, 1) := by decide +kernel
theorem dL_sumsHold_365 : decode cL_sumsHold 365 = .ok (.invokestatic 123, 3) := by decide +kernel
theorem dL_sumsHold_368 : decode cL_sumsHold 368 = .ok (.aload_n 0, 1) := by decide +kernel
theorem dL_sumsHold_369 : decode cL_sumsHold 369 = .ok (.iconst 1, 1) := by decide +kernel
theorem dL_sumsHold_370 : decode cL_sumsHold 370 = .ok (.invokestatic 123, 3) := by decide +kernel
theorem dL_sumsHold_373 : decode cL_sumsHold 373 = .ok (.ladd, 1) := by decide +kernel
theorem dL_sumsHold_374 : decode cL_sumsHold 374 = .ok (.lconst 0, 1) := by decide +kernel
theorem dL_sumsHold_375 : decode cL_sumsHold 375 = .ok (.lcmp, 1) := by decide +kernel
theorem dL_sumsHold_376 : decode cL_sumsHold 376 = .ok (.ifCond .ne 7, 3) := by decide +kernel
theorem dL_sumsHold_379 : decode cL_sumsHold 379 = .ok (.iconst 1, 1) := by decide +kernel
theorem dL_sumsHold_380 : decode cL_sumsHold 380 = .ok (.goto 4, 3) := by decide +kernel
theorem dL_sumsHold_383 : decode cL_sumsHold 383 = .ok (.iconst 0, 1) := by decide +kernel
theorem dL_sumsHold_384 : decode cL_sumsHold 384 = .ok (.ireturn, 1) := by decide +kernel
