theorem dX5_bodyOf_0 : decode cX5_bodyOf 0 = .ok (.iload_n 1, 1) := by decide +kernel
theorem dX5_bodyOf_1 : decode cX5_bodyOf 1 = .ok (.invokestatic 41, 3) := by decide +kernel
theorem dX5_bodyOf_4 : decode cX5_bodyOf 4 = .ok (.ifCond .eq 11, 3) := by decide +kernel
theorem dX5_bodyOf_7 : decode cX5_bodyOf 7 = .ok (.new 44, 3) := by decide +kernel
theorem dX5_bodyOf_10 : decode cX5_bodyOf 10 = .ok (.dup, 1) := by decide +kernel
theorem dX5_bodyOf_11 : decode cX5_bodyOf 11 = .ok (.invokespecial 46, 3) := by decide +kernel
theorem dX5_bodyOf_14 : decode cX5_bodyOf 14 = .ok (.athrow, 1) := by decide +kernel
theorem dX5_bodyOf_15 : decode cX5_bodyOf 15 = .ok (.iload_n 2, 1) := by decide +kernel
theorem dX5_bodyOf_16 : decode cX5_bodyOf 16 = .ok (.tableswitch 133 0 5 #[40, 49, 59, 69, 79, 106], 40) := by decide +kernel
theorem dX5_bodyOf_56 : decode cX5_bodyOf 56 = .ok (.aload_n 0, 1) := by decide +kernel
theorem dX5_bodyOf_57 : decode cX5_bodyOf 57 = .ok (.getfield 10, 3) := by decide +kernel
theorem dX5_bodyOf_60 : decode cX5_bodyOf 60 = .ok (.iload_n 1, 1) := by decide +kernel
theorem dX5_bodyOf_61 : decode cX5_bodyOf 61 = .ok (.invokevirtual 50, 3) := by decide +kernel
theorem dX5_bodyOf_64 : decode cX5_bodyOf 64 = .ok (.ireturn, 1) := by decide +kernel
theorem dX5_bodyOf_65 : decode cX5_bodyOf 65 = .ok (.aload_n 0, 1) := by decide +kernel
theorem dX5_bodyOf_66 : decode cX5_bodyOf 66 = .ok (.getfield 10, 3) := by decide +kernel
theorem dX5_bodyOf_69 : decode cX5_bodyOf 69 = .ok (.getfield 139, 3) := by decide +kernel
theorem dX5_bodyOf_72 : decode cX5_bodyOf 72 = .ok (.iload_n 1, 1) := by decide +kernel
theorem dX5_bodyOf_73 : decode cX5_bodyOf 73 = .ok (.iaload, 1) := by decide +kernel
theorem dX5_bodyOf_74 : decode cX5_bodyOf 74 = .ok (.ireturn, 1) := by decide +kernel
theorem dX5_bodyOf_75 : decode cX5_bodyOf 75 = .ok (.aload_n 0, 1) := by decide +kernel
theorem dX5_bodyOf_76 : decode cX5_bodyOf 76 = .ok (.getfield 10, 3) := by decide +kernel
theorem dX5_bodyOf_79 : decode cX5_bodyOf 79 = .ok (.getfield 142, 3) := by decide +kernel
theorem dX5_bodyOf_82 : decode cX5_bodyOf 82 = .ok (.iload_n 1, 1) := by decide +kernel
theorem dX5_bodyOf_83 : decode cX5_bodyOf 83 = .ok (.iaload, 1) := by decide +kernel
theorem dX5_bodyOf_84 : decode cX5_bodyOf 84 = .ok (.ireturn, 1) := by decide +kernel
theorem dX5_bodyOf_85 : decode cX5_bodyOf 85 = .ok (.aload_n 0, 1) := by decide +kernel
theorem dX5_bodyOf_86 : decode cX5_bodyOf 86 = .ok (.getfield 10, 3) := by decide +kernel
theorem dX5_bodyOf_89 : decode cX5_bodyOf 89 = .ok (.getfield 145, 3) := by decide +kernel
theorem dX5_bodyOf_92 : decode cX5_bodyOf 92 = .ok (.iload_n 1, 1) := by decide +kernel
theorem dX5_bodyOf_93 : decode cX5_bodyOf 93 = .ok (.iaload, 1) := by decide +kernel
theorem dX5_bodyOf_94 : decode cX5_bodyOf 94 = .ok (.ireturn, 1) := by decide +kernel
theorem dX5_bodyOf_95 : decode cX5_bodyOf 95 = .ok (.aload_n 0, 1) := by decide +kernel
theorem dX5_bodyOf_96 : decode cX5_bodyOf 96 = .ok (.getfield 10, 3) := by decide +kernel
theorem dX5_bodyOf_99 : decode cX5_bodyOf 99 = .ok (.getfield 142, 3) := by decide +kernel
theorem dX5_bodyOf_102 : decode cX5_bodyOf 102 = .ok (.iload_n 1, 1) := by decide +kernel
theorem dX5_bodyOf_103 : decode cX5_bodyOf 103 = .ok (.iaload, 1) := by decide +kernel
theorem dX5_bodyOf_104 : decode cX5_bodyOf 104 = .ok (.aload_n 0, 1) := by decide +kernel
theorem dX5_bodyOf_105 : decode cX5_bodyOf 105 = .ok (.getfield 33, 3) := by decide +kernel
theorem dX5_bodyOf_108 : decode cX5_bodyOf 108 = .ok (.iload_n 1, 1) := by decide +kernel
theorem dX5_bodyOf_109 : decode cX5_bodyOf 109 = .ok (.iaload, 1) := by decide +kernel
theorem dX5_bodyOf_110 : decode cX5_bodyOf 110 = .ok (.aload_n 0, 1) := by decide +kernel
theorem dX5_bodyOf_111 : decode cX5_bodyOf 111 = .ok (.getfield 10, 3) := by decide +kernel
theorem dX5_bodyOf_114 : decode cX5_bodyOf 114 = .ok (.getfield 139, 3) := by decide +kernel
theorem dX5_bodyOf_117 : decode cX5_bodyOf 117 = .ok (.iload_n 1, 1) := by decide +kernel
theorem dX5_bodyOf_118 : decode cX5_bodyOf 118 = .ok (.iaload, 1) := by decide +kernel
theorem dX5_bodyOf_119 : decode cX5_bodyOf 119 = .ok (.imul, 1) := by decide +kernel
theorem dX5_bodyOf_120 : decode cX5_bodyOf 120 = .ok (.iadd, 1) := by decide +kernel
theorem dX5_bodyOf_121 : decode cX5_bodyOf 121 = .ok (.ireturn, 1) := by decide +kernel
theorem dX5_bodyOf_122 : decode cX5_bodyOf 122 = .ok (.aload_n 0, 1) := by decide +kernel
theorem dX5_bodyOf_123 : decode cX5_bodyOf 123 = .ok (.getfield 10, 3) := by decide +kernel
theorem dX5_bodyOf_126 : decode cX5_bodyOf 126 = .ok (.getfield 145, 3) := by decide +kernel
theorem dX5_bodyOf_129 : decode cX5_bodyOf 129 = .ok (.iload_n 1, 1) := by decide +kernel
theorem dX5_bodyOf_130 : decode cX5_bodyOf 130 = .ok (.iaload, 1) := by decide +kernel
theorem dX5_bodyOf_131 : decode cX5_bodyOf 131 = .ok (.aload_n 0, 1) := by decide +kernel
theorem dX5_bodyOf_132 : decode cX5_bodyOf 132 = .ok (.getfield 33, 3) := by decide +kernel
theorem dX5_bodyOf_135 : decode cX5_bodyOf 135 = .ok (.iload_n 1, 1) := by decide +kernel
theorem dX5_bodyOf_136 : decode cX5_bodyOf 136 = .ok (.iaload, 1) := by decide +kernel
theorem dX5_bodyOf_137 : decode cX5_bodyOf 137 = .ok (.aload_n 0, 1) := by decide +kernel
theorem dX5_bodyOf_138 : decode cX5_bodyOf 138 = .ok (.getfield 10, 3) := by decide +kernel
theorem dX5_bodyOf_141 : decode cX5_bodyOf 141 = .ok (.getfield 139, 3) := by decide +kernel
theorem dX5_bodyOf_144 : decode cX5_bodyOf 144 = .ok (.iload_n 1, 1) := by decide +kernel
theorem dX5_bodyOf_145 : decode cX5_bodyOf 145 = .ok (.iaload, 1) := by decide +kernel
theorem dX5_bodyOf_146 : decode cX5_bodyOf 146 = .ok (.imul, 1) := by decide +kernel
theorem dX5_bodyOf_147 : decode cX5_bodyOf 147 = .ok (.iadd, 1) := by decide +kernel
theorem dX5_bodyOf_148 : decode cX5_bodyOf 148 = .ok (.ireturn, 1) := by decide +kernel
theorem dX5_bodyOf_149 : decode cX5_bodyOf 149 = .ok (.new 71, 3) := by decide +kernel
theorem dX5_bodyOf_152 : decode cX5_bodyOf 152 = .ok (.dup, 1) := by decide +kernel
theorem dX5_bodyOf_153 : decode cX5_bodyOf 153 = .ok (.invokespecial 73, 3) := by decide +kernel
theorem dX5_bodyOf_156 : decode cX5_bodyOf 156 = .ok (.athrow, 1) := by decide +kernel
theorem dX5_sum_0 : decode cX5_sum 0 = .ok (.iload_n 1, 1) := by decide +kernel
theorem dX5_sum_1 : decode cX5_sum 1 = .ok (.tableswitch 121 0 7 #[47, 53, 59, 71, 83, 93, 103, 112], 47) := by decide +kernel
theorem dX5_sum_48 : decode cX5_sum 48 = .ok (.aload_n 0, 1) := by decide +kernel
theorem dX5_sum_49 : decode cX5_sum 49 = .ok (.getfield 112, 3) := by decide +kernel
theorem dX5_sum_52 : decode cX5_sum 52 = .ok (.i2l, 1) := by decide +kernel
theorem dX5_sum_53 : decode cX5_sum 53 = .ok (.lreturn, 1) := by decide +kernel
theorem dX5_sum_54 : decode cX5_sum 54 = .ok (.aload_n 0, 1) := by decide +kernel
theorem dX5_sum_55 : decode cX5_sum 55 = .ok (.getfield 63, 3) := by decide +kernel
theorem dX5_sum_58 : decode cX5_sum 58 = .ok (.i2l, 1) := by decide +kernel
theorem dX5_sum_59 : decode cX5_sum 59 = .ok (.lreturn, 1) := by decide +kernel
theorem dX5_sum_60 : decode cX5_sum 60 = .ok (.aload_n 0, 1) := by decide +kernel
theorem dX5_sum_61 : decode cX5_sum 61 = .ok (.getfield 10, 3) := by decide +kernel
theorem dX5_sum_64 : decode cX5_sum 64 = .ok (.getfield 78, 3) := by decide +kernel
theorem dX5_sum_67 : decode cX5_sum 67 = .ok (.invokestatic 148, 3) := by decide +kernel
theorem dX5_sum_70 : decode cX5_sum 70 = .ok (.i2l, 1) := by decide +kernel
theorem dX5_sum_71 : decode cX5_sum 71 = .ok (.lreturn, 1) := by decide +kernel
theorem dX5_sum_72 : decode cX5_sum 72 = .ok (.aload_n 0, 1) := by decide +kernel
theorem dX5_sum_73 : decode cX5_sum 73 = .ok (.getfield 10, 3) := by decide +kernel
theorem dX5_sum_76 : decode cX5_sum 76 = .ok (.getfield 89, 3) := by decide +kernel
theorem dX5_sum_79 : decode cX5_sum 79 = .ok (.invokestatic 148, 3) := by decide +kernel
theorem dX5_sum_82 : decode cX5_sum 82 = .ok (.i2l, 1) := by decide +kernel
theorem dX5_sum_83 : decode cX5_sum 83 = .ok (.lreturn, 1) := by decide +kernel
theorem dX5_sum_84 : decode cX5_sum 84 = .ok (.aload_n 0, 1) := by decide +kernel
theorem dX5_sum_85 : decode cX5_sum 85 = .ok (.getfield 10, 3) := by decide +kernel
theorem dX5_sum_88 : decode cX5_sum 88 = .ok (.iconst 0, 1) := by decide +kernel
theorem dX5_sum_89 : decode cX5_sum 89 = .ok (.invokevirtual 152, 3) := by decide +kernel
theorem dX5_sum_92 : decode cX5_sum 92 = .ok (.i2l, 1) := by decide +kernel
theorem dX5_sum_93 : decode cX5_sum 93 = .ok (.lreturn, 1) := by decide +kernel
theorem dX5_sum_94 : decode cX5_sum 94 = .ok (.aload_n 0, 1) := by decide +kernel
theorem dX5_sum_95 : decode cX5_sum 95 = .ok (.getfield 10, 3) := by decide +kernel
theorem dX5_sum_98 : decode cX5_sum 98 = .ok (.iconst 1, 1) := by decide +kernel
theorem dX5_sum_99 : decode cX5_sum 99 = .ok (.invokevirtual 152, 3) := by decide +kernel
theorem dX5_sum_102 : decode cX5_sum 102 = .ok (.i2l, 1) := by decide +kernel
theorem dX5_sum_103 : decode cX5_sum 103 = .ok (.lreturn, 1) := by decide +kernel
theorem dX5_sum_104 : decode cX5_sum 104 = .ok (.aload_n 0, 1) := by decide +kernel
theorem dX5_sum_105 : decode cX5_sum 105 = .ok (.getfield 10, 3) := by decide +kernel
theorem dX5_sum_108 : decode cX5_sum 108 = .ok (.getfield 155, 3) := by decide +kernel
theorem dX5_sum_111 : decode cX5_sum 111 = .ok (.i2l, 1) := by decide +kernel
theorem dX5_sum_112 : decode cX5_sum 112 = .ok (.lreturn, 1) := by decide +kernel
theorem dX5_sum_113 : decode cX5_sum 113 = .ok (.aload_n 0, 1) := by decide +kernel
theorem dX5_sum_114 : decode cX5_sum 114 = .ok (.getfield 22, 3) := by decide +kernel
theorem dX5_sum_117 : decode cX5_sum 117 = .ok (.getfield 104, 3) := by decide +kernel
theorem dX5_sum_120 : decode cX5_sum 120 = .ok (.i2l, 1) := by decide +kernel
theorem dX5_sum_121 : decode cX5_sum 121 = .ok (.lreturn, 1) := by decide +kernel
theorem dX5_sum_122 : decode cX5_sum 122 = .ok (.new 71, 3) := by decide +kernel
theorem dX5_sum_125 : decode cX5_sum 125 = .ok (.dup, 1) := by decide +kernel
theorem dX5_sum_126 : decode cX5_sum 126 = .ok (.invokespecial 73, 3) := by decide +kernel
theorem dX5_sum_129 : decode cX5_sum 129 = .ok (.athrow, 1) := by decide +kernel
theorem dX5_left_0 : decode cX5_left 0 = .ok (.iload_n 1, 1) := by decide +kernel
theorem dX5_left_1 : decode cX5_left 1 = .ok (.ifCond .eq 7, 3) := by decide +kernel
theorem dX5_left_4 : decode cX5_left 4 = .ok (.iconst 1, 1) := by decide +kernel
theorem dX5_left_5 : decode cX5_left 5 = .ok (.goto 4, 3) := by decide +kernel
theorem dX5_left_8 : decode cX5_left 8 = .ok (.iconst 0, 1) := by decide +kernel
theorem dX5_left_9 : decode cX5_left 9 = .ok (.istore_n 2, 1) := by decide +kernel
theorem dX5_left_10 : decode cX5_left 10 = .ok (.iload_n 2, 1) := by decide +kernel
theorem dX5_left_11 : decode cX5_left 11 = .ok (.invokestatic 158, 3) := by decide +kernel
theorem dX5_left_14 : decode cX5_left 14 = .ok (.istore_n 3, 1) := by decide +kernel
theorem dX5_left_15 : decode cX5_left 15 = .ok (.aload_n 0, 1) := by decide +kernel
theorem dX5_left_16 : decode cX5_left 16 = .ok (.getfield 10, 3) := by decide +kernel
theorem dX5_left_19 : decode cX5_left 19 = .ok (.getfield 161, 3) := by decide +kernel
theorem dX5_left_22 : decode cX5_left 22 = .ok (.iload_n 2, 1) := by decide +kernel
theorem dX5_left_23 : decode cX5_left 23 = .ok (.iaload, 1) := by decide +kernel
theorem dX5_left_24 : decode cX5_left 24 = .ok (.aload_n 0, 1) := by decide +kernel
theorem dX5_left_25 : decode cX5_left 25 = .ok (.getfield 10, 3) := by decide +kernel
theorem dX5_left_28 : decode cX5_left 28 = .ok (.getfield 161, 3) := by decide +kernel
theorem dX5_left_31 : decode cX5_left 31 = .ok (.iload_n 3, 1) := by decide +kernel
theorem dX5_left_32 : decode cX5_left 32 = .ok (.iaload, 1) := by decide +kernel
theorem dX5_left_33 : decode cX5_left 33 = .ok (.isub, 1) := by decide +kernel
theorem dX5_left_34 : decode cX5_left 34 = .ok (.i2l, 1) := by decide +kernel
theorem dX5_left_35 : decode cX5_left 35 = .ok (.lstore 4, 2) := by decide +kernel
theorem dX5_left_37 : decode cX5_left 37 = .ok (.aload_n 0, 1) := by decide +kernel
theorem dX5_left_38 : decode cX5_left 38 = .ok (.getfield 10, 3) := by decide +kernel
theorem dX5_left_41 : decode cX5_left 41 = .ok (.getfield 164, 3) := by decide +kernel
theorem dX5_left_44 : decode cX5_left 44 = .ok (.iload_n 2, 1) := by decide +kernel
theorem dX5_left_45 : decode cX5_left 45 = .ok (.iaload, 1) := by decide +kernel
theorem dX5_left_46 : decode cX5_left 46 = .ok (.aload_n 0, 1) := by decide +kernel
theorem dX5_left_47 : decode cX5_left 47 = .ok (.getfield 10, 3) := by decide +kernel
theorem dX5_left_50 : decode cX5_left 50 = .ok (.getfield 164, 3) := by decide +kernel
theorem dX5_left_53 : decode cX5_left 53 = .ok (.iload_n 3, 1) := by decide +kernel
theorem dX5_left_54 : decode cX5_left 54 = .ok (.iaload, 1) := by decide +kernel
theorem dX5_left_55 : decode cX5_left 55 = .ok (.isub, 1) := by decide +kernel
theorem dX5_left_56 : decode cX5_left 56 = .ok (.i2l, 1) := by decide +kernel
theorem dX5_left_57 : decode cX5_left 57 = .ok (.lstore 6, 2) := by decide +kernel
theorem dX5_left_59 : decode cX5_left 59 = .ok (.aload_n 0, 1) := by decide +kernel
theorem dX5_left_60 : decode cX5_left 60 = .ok (.getfield 10, 3) := by decide +kernel
theorem dX5_left_63 : decode cX5_left 63 = .ok (.getfield 167, 3) := by decide +kernel
theorem dX5_left_66 : decode cX5_left 66 = .ok (.iload_n 2, 1) := by decide +kernel
theorem dX5_left_67 : decode cX5_left 67 = .ok (.iaload, 1) := by decide +kernel
theorem dX5_left_68 : decode cX5_left 68 = .ok (.aload_n 0, 1) := by decide +kernel
theorem dX5_left_69 : decode cX5_left 69 = .ok (.getfield 10, 3) := by decide +kernel
theorem dX5_left_72 : decode cX5_left 72 = .ok (.getfield 167, 3) := by decide +kernel
theorem dX5_left_75 : decode cX5_left 75 = .ok (.iload_n 3, 1) := by decide +kernel
theorem dX5_left_76 : decode cX5_left 76 = .ok (.iaload, 1) := by decide +kernel
theorem dX5_left_77 : decode cX5_left 77 = .ok (.isub, 1) := by decide +kernel
theorem dX5_left_78 : decode cX5_left 78 = .ok (.i2l, 1) := by decide +kernel
theorem dX5_left_79 : decode cX5_left 79 = .ok (.lstore 8, 2) := by decide +kernel
theorem dX5_left_81 : decode cX5_left 81 = .ok (.lload 4, 2) := by decide +kernel
theorem dX5_left_83 : decode cX5_left 83 = .ok (.aload_n 0, 1) := by decide +kernel
theorem dX5_left_84 : decode cX5_left 84 = .ok (.getfield 10, 3) := by decide +kernel
theorem dX5_left_87 : decode cX5_left 87 = .ok (.iload_n 2, 1) := by decide +kernel
theorem dX5_left_88 : decode cX5_left 88 = .ok (.invokevirtual 152, 3) := by decide +kernel
theorem dX5_left_91 : decode cX5_left 91 = .ok (.i2l, 1) := by decide +kernel
theorem dX5_left_92 : decode cX5_left 92 = .ok (.lsub, 1) := by decide +kernel
theorem dX5_left_93 : decode cX5_left 93 = .ok (.lload 6, 2) := by decide +kernel
theorem dX5_left_95 : decode cX5_left 95 = .ok (.lsub, 1) := by decide +kernel
theorem dX5_left_96 : decode cX5_left 96 = .ok (.ldc2_w 170, 3) := by decide +kernel
theorem dX5_left_99 : decode cX5_left 99 = .ok (.lload 8, 2) := by decide +kernel
theorem dX5_left_101 : decode cX5_left 101 = .ok (.lmul, 1) := by decide +kernel
theorem dX5_left_102 : decode cX5_left 102 = .ok (.lsub, 1) := by decide +kernel
theorem dX5_left_103 : decode cX5_left 103 = .ok (.lreturn, 1) := by decide +kernel
theorem dX5_average_0 : decode cX5_average 0 = .ok (.iload_n 2, 1) := by decide +kernel
theorem dX5_average_1 : decode cX5_average 1 = .ok (.iconst 0, 1) := by decide +kernel
theorem dX5_average_2 : decode cX5_average 2 = .ok (.iconst 2, 1) := by decide +kernel
theorem dX5_average_3 : decode cX5_average 3 = .ok (.invokestatic 74, 3) := by decide +kernel
theorem dX5_average_6 : decode cX5_average 6 = .ok (.ifCond .ne 16, 3) := by decide +kernel
theorem dX5_average_9 : decode cX5_average 9 = .ok (.iload_n 3, 1) := by decide +kernel
theorem dX5_average_10 : decode cX5_average 10 = .ok (.iload 4, 2) := by decide +kernel
theorem dX5_average_12 : decode cX5_average 12 = .ok (.iload 5, 2) := by decide +kernel
theorem dX5_average_14 : decode cX5_average 14 = .ok (.iload 6, 2) := by decide +kernel
theorem dX5_average_16 : decode cX5_average 16 = .ok (.invokestatic 172, 3) := by decide +kernel
theorem dX5_average_19 : decode cX5_average 19 = .ok (.ifCond .eq 11, 3) := by decide +kernel
theorem dX5_average_22 : decode cX5_average 22 = .ok (.new 71, 3) := by decide +kernel
theorem dX5_average_25 : decode cX5_average 25 = .ok (.dup, 1) := by decide +kernel
theorem dX5_average_26 : decode cX5_average 26 = .ok (.invokespecial 73, 3) := by decide +kernel
theorem dX5_average_29 : decode cX5_average 29 = .ok (.athrow, 1) := by decide +kernel
theorem dX5_average_30 : decode cX5_average 30 = .ok (.aload_n 0, 1) := by decide +kernel
theorem dX5_average_31 : decode cX5_average 31 = .ok (.iload_n 1, 1) := by decide +kernel
theorem dX5_average_32 : decode cX5_average 32 = .ok (.iload_n 2, 1) := by decide +kernel
theorem dX5_average_33 : decode cX5_average 33 = .ok (.new 176, 3) := by decide +kernel
theorem dX5_average_36 : decode cX5_average 36 = .ok (.dup, 1) := by decide +kernel
theorem dX5_average_37 : decode cX5_average 37 = .ok (.iload_n 3, 1) := by decide +kernel
theorem dX5_average_38 : decode cX5_average 38 = .ok (.iload 4, 2) := by decide +kernel
theorem dX5_average_40 : decode cX5_average 40 = .ok (.iload 5, 2) := by decide +kernel
theorem dX5_average_42 : decode cX5_average 42 = .ok (.iload 6, 2) := by decide +kernel
theorem dX5_average_44 : decode cX5_average 44 = .ok (.invokespecial 178, 3) := by decide +kernel
theorem dX5_average_47 : decode cX5_average 47 = .ok (.invokevirtual 181, 3) := by decide +kernel
theorem dX5_average_50 : decode cX5_average 50 = .ok (.astore 7, 2) := by decide +kernel
theorem dX5_average_52 : decode cX5_average 52 = .ok (.aload 7, 2) := by decide +kernel
theorem dX5_average_54 : decode cX5_average 54 = .ok (.getfield 185, 3) := by decide +kernel
theorem dX5_average_57 : decode cX5_average 57 = .ok (.lconst 0, 1) := by decide +kernel
theorem dX5_average_58 : decode cX5_average 58 = .ok (.lcmp, 1) := by decide +kernel
theorem dX5_average_59 : decode cX5_average 59 = .ok (.ifCond .gt 7, 3) := by decide +kernel
theorem dX5_average_62 : decode cX5_average 62 = .ok (.lconst 0, 1) := by decide +kernel
theorem dX5_average_63 : decode cX5_average 63 = .ok (.goto 20, 3) := by decide +kernel
theorem dX5_average_66 : decode cX5_average 66 = .ok (.ldc2_w 190, 3) := by decide +kernel
theorem dX5_average_69 : decode cX5_average 69 = .ok (.aload 7, 2) := by decide +kernel
theorem dX5_average_71 : decode cX5_average 71 = .ok (.getfield 192, 3) := by decide +kernel
theorem dX5_average_74 : decode cX5_average 74 = .ok (.lmul, 1) := by decide +kernel
theorem dX5_average_75 : decode cX5_average 75 = .ok (.aload 7, 2) := by decide +kernel
theorem dX5_average_77 : decode cX5_average 77 = .ok (.getfield 185, 3) := by decide +kernel
theorem dX5_average_80 : decode cX5_average 80 = .ok (.invokestatic 195, 3) := by decide +kernel
theorem dX5_average_83 : decode cX5_average 83 = .ok (.lreturn, 1) := by decide +kernel
theorem dX5_scatter_0 : decode cX5_scatter 0 = .ok (.iload_n 2, 1) := by decide +kernel
theorem dX5_scatter_1 : decode cX5_scatter 1 = .ok (.iconst 0, 1) := by decide +kernel
theorem dX5_scatter_2 : decode cX5_scatter 2 = .ok (.iconst 2, 1) := by decide +kernel
theorem dX5_scatter_3 : decode cX5_scatter 3 = .ok (.invokestatic 74, 3) := by decide +kernel
theorem dX5_scatter_6 : decode cX5_scatter 6 = .ok (.ifCond .ne 16, 3) := by decide +kernel
theorem dX5_scatter_9 : decode cX5_scatter 9 = .ok (.iload_n 3, 1) := by decide +kernel
theorem dX5_scatter_10 : decode cX5_scatter 10 = .ok (.iload 4, 2) := by decide +kernel
theorem dX5_scatter_12 : decode cX5_scatter 12 = .ok (.iload 5, 2) := by decide +kernel
theorem dX5_scatter_14 : decode cX5_scatter 14 = .ok (.iload 6, 2) := by decide +kernel
theorem dX5_scatter_16 : decode cX5_scatter 16 = .ok (.invokestatic 172, 3) := by decide +kernel
theorem dX5_scatter_19 : decode cX5_scatter 19 = .ok (.ifCond .eq 11, 3) := by decide +kernel
theorem dX5_scatter_22 : decode cX5_scatter 22 = .ok (.new 71, 3) := by decide +kernel
theorem dX5_scatter_25 : decode cX5_scatter 25 = .ok (.dup, 1) := by decide +kernel
theorem dX5_scatter_26 : decode cX5_scatter 26 = .ok (.invokespecial 73, 3) := by decide +kernel
theorem dX5_scatter_29 : decode cX5_scatter 29 = .ok (.athrow, 1) := by decide +kernel
theorem dX5_scatter_30 : decode cX5_scatter 30 = .ok (.aload_n 0, 1) := by decide +kernel
theorem dX5_scatter_31 : decode cX5_scatter 31 = .ok (.iload_n 1, 1) := by decide +kernel
theorem dX5_scatter_32 : decode cX5_scatter 32 = .ok (.iload_n 2, 1) := by decide +kernel
theorem dX5_scatter_33 : decode cX5_scatter 33 = .ok (.new 176, 3) := by decide +kernel
theorem dX5_scatter_36 : decode cX5_scatter 36 = .ok (.dup, 1) := by decide +kernel
theorem dX5_scatter_37 : decode cX5_scatter 37 = .ok (.iload_n 3, 1) := by decide +kernel
theorem dX5_scatter_38 : decode cX5_scatter 38 = .ok (.iload 4, 2) := by decide +kernel
theorem dX5_scatter_40 : decode cX5_scatter 40 = .ok (.iload 5, 2) := by decide +kernel
theorem dX5_scatter_42 : decode cX5_scatter 42 = .ok (.iload 6, 2) := by decide +kernel
theorem dX5_scatter_44 : decode cX5_scatter 44 = .ok (.invokespecial 178, 3) := by decide +kernel
theorem dX5_scatter_47 : decode cX5_scatter 47 = .ok (.invokevirtual 181, 3) := by decide +kernel
theorem dX5_scatter_50 : decode cX5_scatter 50 = .ok (.astore 7, 2) := by decide +kernel
theorem dX5_scatter_52 : decode cX5_scatter 52 = .ok (.aload 7, 2) := by decide +kernel
theorem dX5_scatter_54 : decode cX5_scatter 54 = .ok (.getfield 185, 3) := by decide +kernel
theorem dX5_scatter_57 : decode cX5_scatter 57 = .ok (.lconst 0, 1) := by decide +kernel
theorem dX5_scatter_58 : decode cX5_scatter 58 = .ok (.lcmp, 1) := by decide +kernel
theorem dX5_scatter_59 : decode cX5_scatter 59 = .ok (.ifCond .gt 5, 3) := by decide +kernel
theorem dX5_scatter_62 : decode cX5_scatter 62 = .ok (.lconst 0, 1) := by decide +kernel
theorem dX5_scatter_63 : decode cX5_scatter 63 = .ok (.lreturn, 1) := by decide +kernel
theorem dX5_scatter_64 : decode cX5_scatter 64 = .ok (.aload 7, 2) := by decide +kernel
theorem dX5_scatter_66 : decode cX5_scatter 66 = .ok (.getfield 185, 3) := by decide +kernel
theorem dX5_scatter_69 : decode cX5_scatter 69 = .ok (.aload 7, 2) := by decide +kernel
theorem dX5_scatter_71 : decode cX5_scatter 71 = .ok (.getfield 201, 3) := by decide +kernel
theorem dX5_scatter_74 : decode cX5_scatter 74 = .ok (.lmul, 1) := by decide +kernel
theorem dX5_scatter_75 : decode cX5_scatter 75 = .ok (.aload 7, 2) := by decide +kernel
theorem dX5_scatter_77 : decode cX5_scatter 77 = .ok (.getfield 192, 3) := by decide +kernel
theorem dX5_scatter_80 : decode cX5_scatter 80 = .ok (.aload 7, 2) := by decide +kernel
theorem dX5_scatter_82 : decode cX5_scatter 82 = .ok (.getfield 192, 3) := by decide +kernel
theorem dX5_scatter_85 : decode cX5_scatter 85 = .ok (.lmul, 1) := by decide +kernel
theorem dX5_scatter_86 : decode cX5_scatter 86 = .ok (.lsub, 1) := by decide +kernel
theorem dX5_scatter_87 : decode cX5_scatter 87 = .ok (.lstore 8, 2) := by decide +kernel
theorem dX5_scatter_89 : decode cX5_scatter 89 = .ok (.ldc2_w 190, 3) := by decide +kernel
theorem dX5_scatter_92 : decode cX5_scatter 92 = .ok (.lload 8, 2) := by decide +kernel
theorem dX5_scatter_94 : decode cX5_scatter 94 = .ok (.lmul, 1) := by decide +kernel
theorem dX5_scatter_95 : decode cX5_scatter 95 = .ok (.aload 7, 2) := by decide +kernel
theorem dX5_scatter_97 : decode cX5_scatter 97 = .ok (.getfield 185, 3) := by decide +kernel
theorem dX5_scatter_100 : decode cX5_scatter 100 = .ok (.aload 7, 2) := by decide +kernel
theorem dX5_scatter_102 : decode cX5_scatter 102 = .ok (.getfield 185, 3) := by decide +kernel
theorem dX5_scatter_105 : decode cX5_scatter 105 = .ok (.lmul, 1) := by decide +kernel
theorem dX5_scatter_106 : decode cX5_scatter 106 = .ok (.invokestatic 195, 3) := by decide +kernel
theorem dX5_scatter_109 : decode cX5_scatter 109 = .ok (.lreturn, 1) := by decide +kernel
theorem dX5_likeness_0 : decode cX5_likeness 0 = .ok (.iload_n 1, 1) := by decide +kernel
theorem dX5_likeness_1 : decode cX5_likeness 1 = .ok (.iload_n 2, 1) := by decide +kernel
theorem dX5_likeness_2 : decode cX5_likeness 2 = .ok (.iload_n 3, 1) := by decide +kernel
theorem dX5_likeness_3 : decode cX5_likeness 3 = .ok (.iload 4, 2) := by decide +kernel
theorem dX5_likeness_5 : decode cX5_likeness 5 = .ok (.invokestatic 172, 3) := by decide +kernel
theorem dX5_likeness_8 : decode cX5_likeness 8 = .ok (.ifCond .eq 11, 3) := by decide +kernel
theorem dX5_likeness_11 : decode cX5_likeness 11 = .ok (.new 71, 3) := by decide +kernel
theorem dX5_likeness_14 : decode cX5_likeness 14 = .ok (.dup, 1) := by decide +kernel
theorem dX5_likeness_15 : decode cX5_likeness 15 = .ok (.invokespecial 73, 3) := by decide +kernel
theorem dX5_likeness_18 : decode cX5_likeness 18 = .ok (.athrow, 1) := by decide +kernel
theorem dX5_likeness_19 : decode cX5_likeness 19 = .ok (.new 176, 3) := by decide +kernel
theorem dX5_likeness_22 : decode cX5_likeness 22 = .ok (.dup, 1) := by decide +kernel
theorem dX5_likeness_23 : decode cX5_likeness 23 = .ok (.iload_n 1, 1) := by decide +kernel
theorem dX5_likeness_24 : decode cX5_likeness 24 = .ok (.iload_n 2, 1) := by decide +kernel
theorem dX5_likeness_25 : decode cX5_likeness 25 = .ok (.iload_n 3, 1) := by decide +kernel
theorem dX5_likeness_26 : decode cX5_likeness 26 = .ok (.iload 4, 2) := by decide +kernel
theorem dX5_likeness_28 : decode cX5_likeness 28 = .ok (.invokespecial 178, 3) := by decide +kernel
theorem dX5_likeness_31 : decode cX5_likeness 31 = .ok (.astore 5, 2) := by decide +kernel
theorem dX5_likeness_33 : decode cX5_likeness 33 = .ok (.aload_n 0, 1) := by decide +kernel
theorem dX5_likeness_34 : decode cX5_likeness 34 = .ok (.iconst 0, 1) := by decide +kernel
theorem dX5_likeness_35 : decode cX5_likeness 35 = .ok (.iconst 0, 1) := by decide +kernel
theorem dX5_likeness_36 : decode cX5_likeness 36 = .ok (.aload 5, 2) := by decide +kernel
theorem dX5_likeness_38 : decode cX5_likeness 38 = .ok (.invokevirtual 181, 3) := by decide +kernel
theorem dX5_likeness_41 : decode cX5_likeness 41 = .ok (.astore 6, 2) := by decide +kernel
theorem dX5_likeness_43 : decode cX5_likeness 43 = .ok (.aload 6, 2) := by decide +kernel
theorem dX5_likeness_45 : decode cX5_likeness 45 = .ok (.getfield 192, 3) := by decide +kernel
theorem dX5_likeness_48 : decode cX5_likeness 48 = .ok (.lconst 0, 1) := by decide +kernel
theorem dX5_likeness_49 : decode cX5_likeness 49 = .ok (.lcmp, 1) := by decide +kernel
theorem dX5_likeness_50 : decode cX5_likeness 50 = .ok (.ifCond .le 13, 3) := by decide +kernel
theorem dX5_likeness_53 : decode cX5_likeness 53 = .ok (.aload 6, 2) := by decide +kernel
theorem dX5_likeness_55 : decode cX5_likeness 55 = .ok (.getfield 185, 3) := by decide +kernel
theorem dX5_likeness_58 : decode cX5_likeness 58 = .ok (.lconst 0, 1) := by decide +kernel
theorem dX5_likeness_59 : decode cX5_likeness 59 = .ok (.lcmp, 1) := by decide +kernel
theorem dX5_likeness_60 : decode cX5_likeness 60 = .ok (.ifCond .gt 5, 3) := by decide +kernel
theorem dX5_likeness_63 : decode cX5_likeness 63 = .ok (.fconst 0, 1) := by decide +kernel
theorem dX5_likeness_64 : decode cX5_likeness 64 = .ok (.freturn, 1) := by decide +kernel
theorem dX5_likeness_65 : decode cX5_likeness 65 = .ok (.aload 6, 2) := by decide +kernel
theorem dX5_likeness_67 : decode cX5_likeness 67 = .ok (.getfield 192, 3) := by decide +kernel
theorem dX5_likeness_70 : decode cX5_likeness 70 = .ok (.l2f, 1) := by decide +kernel
theorem dX5_likeness_71 : decode cX5_likeness 71 = .ok (.fstore 7, 2) := by decide +kernel
theorem dX5_likeness_73 : decode cX5_likeness 73 = .ok (.aload_n 0, 1) := by decide +kernel
theorem dX5_likeness_74 : decode cX5_likeness 74 = .ok (.iconst 0, 1) := by decide +kernel
theorem dX5_likeness_75 : decode cX5_likeness 75 = .ok (.iconst 1, 1) := by decide +kernel
theorem dX5_likeness_76 : decode cX5_likeness 76 = .ok (.aload 5, 2) := by decide +kernel
theorem dX5_likeness_78 : decode cX5_likeness 78 = .ok (.invokevirtual 181, 3) := by decide +kernel
theorem dX5_likeness_81 : decode cX5_likeness 81 = .ok (.getfield 192, 3) := by decide +kernel
theorem dX5_likeness_84 : decode cX5_likeness 84 = .ok (.l2f, 1) := by decide +kernel
theorem dX5_likeness_85 : decode cX5_likeness 85 = .ok (.fstore 8, 2) := by decide +kernel
theorem dX5_likeness_87 : decode cX5_likeness 87 = .ok (.aload 6, 2) := by decide +kernel
theorem dX5_likeness_89 : decode cX5_likeness 89 = .ok (.getfield 185, 3) := by decide +kernel
theorem dX5_likeness_92 : decode cX5_likeness 92 = .ok (.l2f, 1) := by decide +kernel
theorem dX5_likeness_93 : decode cX5_likeness 93 = .ok (.fstore 9, 2) := by decide +kernel
theorem dX5_likeness_95 : decode cX5_likeness 95 = .ok (.fload 8, 2) := by decide +kernel
theorem dX5_likeness_97 : decode cX5_likeness 97 = .ok (.fload 7, 2) := by decide +kernel
theorem dX5_likeness_99 : decode cX5_likeness 99 = .ok (.fdiv, 1) := by decide +kernel
theorem dX5_likeness_100 : decode cX5_likeness 100 = .ok (.fstore 10, 2) := by decide +kernel
theorem dX5_likeness_102 : decode cX5_likeness 102 = .ok (.fload 7, 2) := by decide +kernel
theorem dX5_likeness_104 : decode cX5_likeness 104 = .ok (.fload 9, 2) := by decide +kernel
theorem dX5_likeness_106 : decode cX5_likeness 106 = .ok (.fdiv, 1) := by decide +kernel
theorem dX5_likeness_107 : decode cX5_likeness 107 = .ok (.fstore 11, 2) := by decide +kernel
theorem dX5_likeness_109 : decode cX5_likeness 109 = .ok (.fload 10, 2) := by decide +kernel
theorem dX5_likeness_111 : decode cX5_likeness 111 = .ok (.iload_n 3, 1) := by decide +kernel
theorem dX5_likeness_112 : decode cX5_likeness 112 = .ok (.i2f, 1) := by decide +kernel
theorem dX5_likeness_113 : decode cX5_likeness 113 = .ok (.fmul, 1) := by decide +kernel
theorem dX5_likeness_114 : decode cX5_likeness 114 = .ok (.fload 11, 2) := by decide +kernel
theorem dX5_likeness_116 : decode cX5_likeness 116 = .ok (.fmul, 1) := by decide +kernel
theorem dX5_likeness_117 : decode cX5_likeness 117 = .ok (.freturn, 1) := by decide +kernel
theorem dX5_ahead_0 : decode cX5_ahead 0 = .ok (.iload_n 1, 1) := by decide +kernel
theorem dX5_ahead_1 : decode cX5_ahead 1 = .ok (.invokestatic 37, 3) := by decide +kernel
theorem dX5_ahead_4 : decode cX5_ahead 4 = .ok (.ifCond .eq 11, 3) := by decide +kernel
theorem dX5_ahead_7 : decode cX5_ahead 7 = .ok (.new 44, 3) := by decide +kernel
theorem dX5_ahead_10 : decode cX5_ahead 10 = .ok (.dup, 1) := by decide +kernel
theorem dX5_ahead_11 : decode cX5_ahead 11 = .ok (.invokespecial 46, 3) := by decide +kernel
theorem dX5_ahead_14 : decode cX5_ahead 14 = .ok (.athrow, 1) := by decide +kernel
theorem dX5_ahead_15 : decode cX5_ahead 15 = .ok (.iload_n 2, 1) := by decide +kernel
theorem dX5_ahead_16 : decode cX5_ahead 16 = .ok (.iconst 0, 1) := by decide +kernel
theorem dX5_ahead_17 : decode cX5_ahead 17 = .ok (.iconst 5, 1) := by decide +kernel
theorem dX5_ahead_18 : decode cX5_ahead 18 = .ok (.invokestatic 74, 3) := by decide +kernel
theorem dX5_ahead_21 : decode cX5_ahead 21 = .ok (.ifCond .eq 11, 3) := by decide +kernel
theorem dX5_ahead_24 : decode cX5_ahead 24 = .ok (.new 71, 3) := by decide +kernel
theorem dX5_ahead_27 : decode cX5_ahead 27 = .ok (.dup, 1) := by decide +kernel
theorem dX5_ahead_28 : decode cX5_ahead 28 = .ok (.invokespecial 73, 3) := by decide +kernel
theorem dX5_ahead_31 : decode cX5_ahead 31 = .ok (.athrow, 1) := by decide +kernel
theorem dX5_ahead_32 : decode cX5_ahead 32 = .ok (.aload_n 0, 1) := by decide +kernel
theorem dX5_ahead_33 : decode cX5_ahead 33 = .ok (.getfield 16, 3) := by decide +kernel
theorem dX5_ahead_36 : decode cX5_ahead 36 = .ok (.aload_n 0, 1) := by decide +kernel
theorem dX5_ahead_37 : decode cX5_ahead 37 = .ok (.getfield 10, 3) := by decide +kernel
theorem dX5_ahead_40 : decode cX5_ahead 40 = .ok (.invokevirtual 204, 3) := by decide +kernel
theorem dX5_ahead_43 : decode cX5_ahead 43 = .ok (.iconst 0, 1) := by decide +kernel
theorem dX5_ahead_44 : decode cX5_ahead 44 = .ok (.istore_n 3, 1) := by decide +kernel
theorem dX5_ahead_45 : decode cX5_ahead 45 = .ok (.iload_n 3, 1) := by decide +kernel
theorem dX5_ahead_46 : decode cX5_ahead 46 = .ok (.iload_n 2, 1) := by decide +kernel
theorem dX5_ahead_47 : decode cX5_ahead 47 = .ok (.if_icmp .ge 16, 3) := by decide +kernel
theorem dX5_ahead_50 : decode cX5_ahead 50 = .ok (.aload_n 0, 1) := by decide +kernel
theorem dX5_ahead_51 : decode cX5_ahead 51 = .ok (.getfield 16, 3) := by decide +kernel
theorem dX5_ahead_54 : decode cX5_ahead 54 = .ok (.invokevirtual 119, 3) := by decide +kernel
theorem dX5_ahead_57 : decode cX5_ahead 57 = .ok (.iinc 3 1, 3) := by decide +kernel
theorem dX5_ahead_60 : decode cX5_ahead 60 = .ok (.goto (-15), 3) := by decide +kernel
theorem dX5_ahead_63 : decode cX5_ahead 63 = .ok (.aload_n 0, 1) := by decide +kernel
theorem dX5_ahead_64 : decode cX5_ahead 64 = .ok (.getfield 16, 3) := by decide +kernel
theorem dX5_ahead_67 : decode cX5_ahead 67 = .ok (.getfield 78, 3) := by decide +kernel
theorem dX5_ahead_70 : decode cX5_ahead 70 = .ok (.iload_n 1, 1) := by decide +kernel
theorem dX5_ahead_71 : decode cX5_ahead 71 = .ok (.iaload, 1) := by decide +kernel
theorem dX5_ahead_72 : decode cX5_ahead 72 = .ok (.ireturn, 1) := by decide +kernel
theorem dX5_aheadAnew_0 : decode cX5_aheadAnew 0 = .ok (.iload_n 1, 1) := by decide +kernel
theorem dX5_aheadAnew_1 : decode cX5_aheadAnew 1 = .ok (.invokestatic 37, 3) := by decide +kernel
theorem dX5_aheadAnew_4 : decode cX5_aheadAnew 4 = .ok (.ifCond .eq 11, 3) := by decide +kernel
theorem dX5_aheadAnew_7 : decode cX5_aheadAnew 7 = .ok (.new 44, 3) := by decide +kernel
theorem dX5_aheadAnew_10 : decode cX5_aheadAnew 10 = .ok (.dup, 1) := by decide +kernel
theorem dX5_aheadAnew_11 : decode cX5_aheadAnew 11 = .ok (.invokespecial 46, 3) := by decide +kernel
theorem dX5_aheadAnew_14 : decode cX5_aheadAnew 14 = .ok (.athrow, 1) := by decide +kernel
theorem dX5_aheadAnew_15 : decode cX5_aheadAnew 15 = .ok (.iload_n 2, 1) := by decide +kernel
theorem dX5_aheadAnew_16 : decode cX5_aheadAnew 16 = .ok (.iconst 0, 1) := by decide +kernel
theorem dX5_aheadAnew_17 : decode cX5_aheadAnew 17 = .ok (.iconst 5, 1) := by decide +kernel
theorem dX5_aheadAnew_18 : decode cX5_aheadAnew 18 = .ok (.invokestatic 74, 3) := by decide +kernel
theorem dX5_aheadAnew_21 : decode cX5_aheadAnew 21 = .ok (.ifCond .eq 11, 3) := by decide +kernel
theorem dX5_aheadAnew_24 : decode cX5_aheadAnew 24 = .ok (.new 71, 3) := by decide +kernel
theorem dX5_aheadAnew_27 : decode cX5_aheadAnew 27 = .ok (.dup, 1) := by decide +kernel
theorem dX5_aheadAnew_28 : decode cX5_aheadAnew 28 = .ok (.invokespecial 73, 3) := by decide +kernel
theorem dX5_aheadAnew_31 : decode cX5_aheadAnew 31 = .ok (.athrow, 1) := by decide +kernel
theorem dX5_aheadAnew_32 : decode cX5_aheadAnew 32 = .ok (.aload_n 0, 1) := by decide +kernel
theorem dX5_aheadAnew_33 : decode cX5_aheadAnew 33 = .ok (.getfield 10, 3) := by decide +kernel
theorem dX5_aheadAnew_36 : decode cX5_aheadAnew 36 = .ok (.iload_n 1, 1) := by decide +kernel
theorem dX5_aheadAnew_37 : decode cX5_aheadAnew 37 = .ok (.iload_n 2, 1) := by decide +kernel
theorem dX5_aheadAnew_38 : decode cX5_aheadAnew 38 = .ok (.invokestatic 207, 3) := by decide +kernel
theorem dX5_aheadAnew_41 : decode cX5_aheadAnew 41 = .ok (.ireturn, 1) := by decide +kernel
theorem dX5_mixed_0 : decode cX5_mixed 0 = .ok (.iload_n 1, 1) := by decide +kernel
theorem dX5_mixed_1 : decode cX5_mixed 1 = .ok (.lookupswitch 38 #[(0, 27), (1, 33)], 27) := by decide +kernel
theorem dX5_mixed_28 : decode cX5_mixed 28 = .ok (.aload_n 0, 1) := by decide +kernel
theorem dX5_mixed_29 : decode cX5_mixed 29 = .ok (.invokevirtual 211, 3) := by decide +kernel
theorem dX5_mixed_32 : decode cX5_mixed 32 = .ok (.i2l, 1) := by decide +kernel
theorem dX5_mixed_33 : decode cX5_mixed 33 = .ok (.lreturn, 1) := by decide +kernel
theorem dX5_mixed_34 : decode cX5_mixed 34 = .ok (.aload_n 0, 1) := by decide +kernel
theorem dX5_mixed_35 : decode cX5_mixed 35 = .ok (.invokevirtual 215, 3) := by decide +kernel
theorem dX5_mixed_38 : decode cX5_mixed 38 = .ok (.lreturn, 1) := by decide +kernel
theorem dX5_mixed_39 : decode cX5_mixed 39 = .ok (.new 71, 3) := by decide +kernel
theorem dX5_mixed_42 : decode cX5_mixed 42 = .ok (.dup, 1) := by decide +kernel
theorem dX5_mixed_43 : decode cX5_mixed 43 = .ok (.invokespecial 73, 3) := by decide +kernel
theorem dX5_mixed_46 : decode cX5_mixed 46 = .ok (.athrow, 1) := by decide +kernel
theorem dX5_record_0 : decode cX5_record 0 = .ok (.iload_n 1, 1) := by decide +kernel
theorem dX5_record_1 : decode cX5_record 1 = .ok (.iconst 0, 1) := by decide +kernel
theorem dX5_record_2 : decode cX5_record 2 = .ok (.aload_n 0, 1) := by decide +kernel
theorem dX5_record_3 : decode cX5_record 3 = .ok (.getfield 29, 3) := by decide +kernel
theorem dX5_record_6 : decode cX5_record 6 = .ok (.getfield 97, 3) := by decide +kernel
theorem dX5_record_9 : decode cX5_record 9 = .ok (.iconst 1, 1) := by decide +kernel
theorem dX5_record_10 : decode cX5_record 10 = .ok (.isub, 1) := by decide +kernel
theorem dX5_record_11 : decode cX5_record 11 = .ok (.invokestatic 74, 3) := by decide +kernel
theorem dX5_record_14 : decode cX5_record 14 = .ok (.ifCond .ne 22, 3) := by decide +kernel
theorem dX5_record_17 : decode cX5_record 17 = .ok (.iload_n 2, 1) := by decide +kernel
theorem dX5_record_18 : decode cX5_record 18 = .ok (.iconst 0, 1) := by decide +kernel
theorem dX5_record_19 : decode cX5_record 19 = .ok (.aload_n 0, 1) := by decide +kernel
theorem dX5_record_20 : decode cX5_record 20 = .ok (.getfield 29, 3) := by decide +kernel
theorem dX5_record_23 : decode cX5_record 23 = .ok (.getfield 219, 3) := by decide +kernel
theorem dX5_record_26 : decode cX5_record 26 = .ok (.iload_n 1, 1) := by decide +kernel
theorem dX5_record_27 : decode cX5_record 27 = .ok (.iaload, 1) := by decide +kernel
theorem dX5_record_28 : decode cX5_record 28 = .ok (.iconst 1, 1) := by decide +kernel
theorem dX5_record_29 : decode cX5_record 29 = .ok (.isub, 1) := by decide +kernel
theorem dX5_record_30 : decode cX5_record 30 = .ok (.invokestatic 74, 3) := by decide +kernel
theorem dX5_record_33 : decode cX5_record 33 = .ok (.ifCond .eq 11, 3) := by decide +kernel
theorem dX5_record_36 : decode cX5_record 36 = .ok (.new 44, 3) := by decide +kernel
theorem dX5_record_39 : decode cX5_record 39 = .ok (.dup, 1) := by decide +kernel
theorem dX5_record_40 : decode cX5_record 40 = .ok (.invokespecial 46, 3) := by decide +kernel
theorem dX5_record_43 : decode cX5_record 43 = .ok (.athrow, 1) := by decide +kernel
theorem dX5_record_44 : decode cX5_record 44 = .ok (.aload_n 0, 1) := by decide +kernel
theorem dX5_record_45 : decode cX5_record 45 = .ok (.getfield 29, 3) := by decide +kernel
theorem dX5_record_48 : decode cX5_record 48 = .ok (.getfield 222, 3) := by decide +kernel
theorem dX5_record_51 : decode cX5_record 51 = .ok (.iload_n 1, 1) := by decide +kernel
theorem dX5_record_52 : decode cX5_record 52 = .ok (.aaload, 1) := by decide +kernel
theorem dX5_record_53 : decode cX5_record 53 = .ok (.aload_n 0, 1) := by decide +kernel
theorem dX5_record_54 : decode cX5_record 54 = .ok (.getfield 29, 3) := by decide +kernel
theorem dX5_record_57 : decode cX5_record 57 = .ok (.getfield 219, 3) := by decide +kernel
theorem dX5_record_60 : decode cX5_record 60 = .ok (.iload_n 1, 1) := by decide +kernel
theorem dX5_record_61 : decode cX5_record 61 = .ok (.iaload, 1) := by decide +kernel
theorem dX5_record_62 : decode cX5_record 62 = .ok (.iconst 1, 1) := by decide +kernel
theorem dX5_record_63 : decode cX5_record 63 = .ok (.isub, 1) := by decide +kernel
theorem dX5_record_64 : decode cX5_record 64 = .ok (.iload_n 2, 1) := by decide +kernel
theorem dX5_record_65 : decode cX5_record 65 = .ok (.isub, 1) := by decide +kernel
theorem dX5_record_66 : decode cX5_record 66 = .ok (.baload, 1) := by decide +kernel
theorem dX5_record_67 : decode cX5_record 67 = .ok (.ireturn, 1) := by decide +kernel
theorem dX5_beat_0 : decode cX5_beat 0 = .ok (.iload_n 1, 1) := by decide +kernel
theorem dX5_beat_1 : decode cX5_beat 1 = .ok (.iconst 0, 1) := by decide +kernel
theorem dX5_beat_2 : decode cX5_beat 2 = .ok (.aload_n 0, 1) := by decide +kernel
theorem dX5_beat_3 : decode cX5_beat 3 = .ok (.getfield 29, 3) := by decide +kernel
theorem dX5_beat_6 : decode cX5_beat 6 = .ok (.getfield 97, 3) := by decide +kernel
theorem dX5_beat_9 : decode cX5_beat 9 = .ok (.iconst 1, 1) := by decide +kernel
theorem dX5_beat_10 : decode cX5_beat 10 = .ok (.isub, 1) := by decide +kernel
theorem dX5_beat_11 : decode cX5_beat 11 = .ok (.invokestatic 74, 3) := by decide +kernel
theorem dX5_beat_14 : decode cX5_beat 14 = .ok (.ifCond .eq 11, 3) := by decide +kernel
theorem dX5_beat_17 : decode cX5_beat 17 = .ok (.new 44, 3) := by decide +kernel
theorem dX5_beat_20 : decode cX5_beat 20 = .ok (.dup, 1) := by decide +kernel
theorem dX5_beat_21 : decode cX5_beat 21 = .ok (.invokespecial 46, 3) := by decide +kernel
theorem dX5_beat_24 : decode cX5_beat 24 = .ok (.athrow, 1) := by decide +kernel
theorem dX5_beat_25 : decode cX5_beat 25 = .ok (.aload_n 0, 1) := by decide +kernel
theorem dX5_beat_26 : decode cX5_beat 26 = .ok (.getfield 29, 3) := by decide +kernel
theorem dX5_beat_29 : decode cX5_beat 29 = .ok (.iload_n 1, 1) := by decide +kernel
theorem dX5_beat_30 : decode cX5_beat 30 = .ok (.invokevirtual 225, 3) := by decide +kernel
theorem dX5_beat_33 : decode cX5_beat 33 = .ok (.ireturn, 1) := by decide +kernel
theorem dX5_better_0 : decode cX5_better 0 = .ok (.iload_n 1, 1) := by decide +kernel
theorem dX5_better_1 : decode cX5_better 1 = .ok (.invokestatic 41, 3) := by decide +kernel
theorem dX5_better_4 : decode cX5_better 4 = .ok (.ifCond .eq 11, 3) := by decide +kernel
theorem dX5_better_7 : decode cX5_better 7 = .ok (.new 44, 3) := by decide +kernel
theorem dX5_better_10 : decode cX5_better 10 = .ok (.dup, 1) := by decide +kernel
theorem dX5_better_11 : decode cX5_better 11 = .ok (.invokespecial 46, 3) := by decide +kernel
theorem dX5_better_14 : decode cX5_better 14 = .ok (.athrow, 1) := by decide +kernel
theorem dX5_better_15 : decode cX5_better 15 = .ok (.iload_n 2, 1) := by decide +kernel
theorem dX5_better_16 : decode cX5_better 16 = .ok (.iconst 1, 1) := by decide +kernel
theorem dX5_better_17 : decode cX5_better 17 = .ok (.bipush 10, 2) := by decide +kernel
theorem dX5_better_19 : decode cX5_better 19 = .ok (.invokestatic 74, 3) := by decide +kernel
theorem dX5_better_22 : decode cX5_better 22 = .ok (.ifCond .eq 11, 3) := by decide +kernel
theorem dX5_better_25 : decode cX5_better 25 = .ok (.new 71, 3) := by decide +kernel
theorem dX5_better_28 : decode cX5_better 28 = .ok (.dup, 1) := by decide +kernel
theorem dX5_better_29 : decode cX5_better 29 = .ok (.invokespecial 73, 3) := by decide +kernel
theorem dX5_better_32 : decode cX5_better 32 = .ok (.athrow, 1) := by decide +kernel
theorem dX5_better_33 : decode cX5_better 33 = .ok (.iconst (-1), 1) := by decide +kernel
theorem dX5_better_34 : decode cX5_better 34 = .ok (.istore_n 3, 1) := by decide +kernel
theorem dX5_better_35 : decode cX5_better 35 = .ok (.aload_n 0, 1) := by decide +kernel
theorem dX5_better_36 : decode cX5_better 36 = .ok (.iconst (-1), 1) := by decide +kernel
theorem dX5_better_37 : decode cX5_better 37 = .ok (.iload_n 1, 1) := by decide +kernel
theorem dX5_better_38 : decode cX5_better 38 = .ok (.iload_n 2, 1) := by decide +kernel
theorem dX5_better_39 : decode cX5_better 39 = .ok (.invokevirtual 228, 3) := by decide +kernel
theorem dX5_better_42 : decode cX5_better 42 = .ok (.istore 4, 2) := by decide +kernel
theorem dX5_better_44 : decode cX5_better 44 = .ok (.iconst 0, 1) := by decide +kernel
theorem dX5_better_45 : decode cX5_better 45 = .ok (.istore 5, 2) := by decide +kernel
theorem dX5_better_47 : decode cX5_better 47 = .ok (.iload 5, 2) := by decide +kernel
theorem dX5_better_49 : decode cX5_better 49 = .ok (.bipush 96, 2) := by decide +kernel
theorem dX5_better_51 : decode cX5_better 51 = .ok (.if_icmp .ge 47, 3) := by decide +kernel
theorem dX5_better_54 : decode cX5_better 54 = .ok (.aload_n 0, 1) := by decide +kernel
theorem dX5_better_55 : decode cX5_better 55 = .ok (.getfield 10, 3) := by decide +kernel
theorem dX5_better_58 : decode cX5_better 58 = .ok (.getfield 60, 3) := by decide +kernel
theorem dX5_better_61 : decode cX5_better 61 = .ok (.iload 5, 2) := by decide +kernel
theorem dX5_better_63 : decode cX5_better 63 = .ok (.iaload, 1) := by decide +kernel
theorem dX5_better_64 : decode cX5_better 64 = .ok (.iload_n 1, 1) := by decide +kernel
theorem dX5_better_65 : decode cX5_better 65 = .ok (.if_icmp .ne 27, 3) := by decide +kernel
theorem dX5_better_68 : decode cX5_better 68 = .ok (.aload_n 0, 1) := by decide +kernel
theorem dX5_better_69 : decode cX5_better 69 = .ok (.iload 5, 2) := by decide +kernel
theorem dX5_better_71 : decode cX5_better 71 = .ok (.iload_n 1, 1) := by decide +kernel
theorem dX5_better_72 : decode cX5_better 72 = .ok (.iload_n 2, 1) := by decide +kernel
theorem dX5_better_73 : decode cX5_better 73 = .ok (.invokevirtual 228, 3) := by decide +kernel
theorem dX5_better_76 : decode cX5_better 76 = .ok (.istore 6, 2) := by decide +kernel
theorem dX5_better_78 : decode cX5_better 78 = .ok (.iload 6, 2) := by decide +kernel
theorem dX5_better_80 : decode cX5_better 80 = .ok (.iload 4, 2) := by decide +kernel
theorem dX5_better_82 : decode cX5_better 82 = .ok (.if_icmp .ge 10, 3) := by decide +kernel
theorem dX5_better_85 : decode cX5_better 85 = .ok (.iload 6, 2) := by decide +kernel
theorem dX5_better_87 : decode cX5_better 87 = .ok (.istore 4, 2) := by decide +kernel
theorem dX5_better_89 : decode cX5_better 89 = .ok (.iload 5, 2) := by decide +kernel
theorem dX5_better_91 : decode cX5_better 91 = .ok (.istore_n 3, 1) := by decide +kernel
theorem dX5_better_92 : decode cX5_better 92 = .ok (.iinc 5 1, 3) := by decide +kernel
theorem dX5_better_95 : decode cX5_better 95 = .ok (.goto (-48), 3) := by decide +kernel
theorem dX5_better_98 : decode cX5_better 98 = .ok (.iload_n 3, 1) := by decide +kernel
theorem dX5_better_99 : decode cX5_better 99 = .ok (.ireturn, 1) := by decide +kernel
theorem dX5_isOutside_0 : decode cX5_isOutside 0 = .ok (.iload_n 0, 1) := by decide +kernel
theorem dX5_isOutside_1 : decode cX5_isOutside 1 = .ok (.iload_n 1, 1) := by decide +kernel
theorem dX5_isOutside_2 : decode cX5_isOutside 2 = .ok (.if_icmp .lt 8, 3) := by decide +kernel
theorem dX5_isOutside_5 : decode cX5_isOutside 5 = .ok (.iload_n 0, 1) := by decide +kernel
theorem dX5_isOutside_6 : decode cX5_isOutside 6 = .ok (.iload_n 2, 1) := by decide +kernel
theorem dX5_isOutside_7 : decode cX5_isOutside 7 = .ok (.if_icmp .le 7, 3) := by decide +kernel
theorem dX5_isOutside_10 : decode cX5_isOutside 10 = .ok (.iconst 1, 1) := by decide +kernel
theorem dX5_isOutside_11 : decode cX5_isOutside 11 = .ok (.goto 4, 3) := by decide +kernel
theorem dX5_isOutside_14 : decode cX5_isOutside 14 = .ok (.iconst 0, 1) := by decide +kernel
theorem dX5_isOutside_15 : decode cX5_isOutside 15 = .ok (.ireturn, 1) := by decide +kernel
theorem dX5_isNoCell_0 : decode cX5_isNoCell 0 = .ok (.iload_n 0, 1) := by decide +kernel
theorem dX5_isNoCell_1 : decode cX5_isNoCell 1 = .ok (.ifCond .lt 9, 3) := by decide +kernel
theorem dX5_isNoCell_4 : decode cX5_isNoCell 4 = .ok (.iload_n 0, 1) := by decide +kernel
theorem dX5_isNoCell_5 : decode cX5_isNoCell 5 = .ok (.bipush 96, 2) := by decide +kernel
theorem dX5_isNoCell_7 : decode cX5_isNoCell 7 = .ok (.if_icmp .lt 7, 3) := by decide +kernel
theorem dX5_isNoCell_10 : decode cX5_isNoCell 10 = .ok (.iconst 1, 1) := by decide +kernel
theorem dX5_isNoCell_11 : decode cX5_isNoCell 11 = .ok (.goto 4, 3) := by decide +kernel
theorem dX5_isNoCell_14 : decode cX5_isNoCell 14 = .ok (.iconst 0, 1) := by decide +kernel
theorem dX5_isNoCell_15 : decode cX5_isNoCell 15 = .ok (.ireturn, 1) := by decide +kernel
theorem dX5_isNoBody_0 : decode cX5_isNoBody 0 = .ok (.iload_n 0, 1) := by decide +kernel
theorem dX5_isNoBody_1 : decode cX5_isNoBody 1 = .ok (.ifCond .lt 8, 3) := by decide +kernel
theorem dX5_isNoBody_4 : decode cX5_isNoBody 4 = .ok (.iload_n 0, 1) := by decide +kernel
theorem dX5_isNoBody_5 : decode cX5_isNoBody 5 = .ok (.iconst 4, 1) := by decide +kernel
theorem dX5_isNoBody_6 : decode cX5_isNoBody 6 = .ok (.if_icmp .lt 7, 3) := by decide +kernel
theorem dX5_isNoBody_9 : decode cX5_isNoBody 9 = .ok (.iconst 1, 1) := by decide +kernel
theorem dX5_isNoBody_10 : decode cX5_isNoBody 10 = .ok (.goto 4, 3) := by decide +kernel
theorem dX5_isNoBody_13 : decode cX5_isNoBody 13 = .ok (.iconst 0, 1) := by decide +kernel
theorem dX5_isNoBody_14 : decode cX5_isNoBody 14 = .ok (.ireturn, 1) := by decide +kernel
theorem dX5_isNoWindow_0 : decode cX5_isNoWindow 0 = .ok (.iload_n 0, 1) := by decide +kernel
theorem dX5_isNoWindow_1 : decode cX5_isNoWindow 1 = .ok (.iconst 0, 1) := by decide +kernel
theorem dX5_isNoWindow_2 : decode cX5_isNoWindow 2 = .ok (.bipush 7, 2) := by decide +kernel
theorem dX5_isNoWindow_4 : decode cX5_isNoWindow 4 = .ok (.invokestatic 74, 3) := by decide +kernel
theorem dX5_isNoWindow_7 : decode cX5_isNoWindow 7 = .ok (.ifCond .ne 35, 3) := by decide +kernel
theorem dX5_isNoWindow_10 : decode cX5_isNoWindow 10 = .ok (.iload_n 1, 1) := by decide +kernel
theorem dX5_isNoWindow_11 : decode cX5_isNoWindow 11 = .ok (.iconst 0, 1) := by decide +kernel
theorem dX5_isNoWindow_12 : decode cX5_isNoWindow 12 = .ok (.bipush 11, 2) := by decide +kernel
theorem dX5_isNoWindow_14 : decode cX5_isNoWindow 14 = .ok (.invokestatic 74, 3) := by decide +kernel
theorem dX5_isNoWindow_17 : decode cX5_isNoWindow 17 = .ok (.ifCond .ne 25, 3) := by decide +kernel
theorem dX5_isNoWindow_20 : decode cX5_isNoWindow 20 = .ok (.iload_n 2, 1) := by decide +kernel
theorem dX5_isNoWindow_21 : decode cX5_isNoWindow 21 = .ok (.iconst 1, 1) := by decide +kernel
theorem dX5_isNoWindow_22 : decode cX5_isNoWindow 22 = .ok (.bipush 8, 2) := by decide +kernel
theorem dX5_isNoWindow_24 : decode cX5_isNoWindow 24 = .ok (.iload_n 0, 1) := by decide +kernel
theorem dX5_isNoWindow_25 : decode cX5_isNoWindow 25 = .ok (.isub, 1) := by decide +kernel
theorem dX5_isNoWindow_26 : decode cX5_isNoWindow 26 = .ok (.invokestatic 74, 3) := by decide +kernel
theorem dX5_isNoWindow_29 : decode cX5_isNoWindow 29 = .ok (.ifCond .ne 13, 3) := by decide +kernel
theorem dX5_isNoWindow_32 : decode cX5_isNoWindow 32 = .ok (.iload_n 3, 1) := by decide +kernel
theorem dX5_isNoWindow_33 : decode cX5_isNoWindow 33 = .ok (.iconst 1, 1) := by decide +kernel
theorem dX5_isNoWindow_34 : decode cX5_isNoWindow 34 = .ok (.bipush 12, 2) := by decide +kernel
theorem dX5_isNoWindow_36 : decode cX5_isNoWindow 36 = .ok (.invokestatic 74, 3) := by decide +kernel
theorem dX5_isNoWindow_39 : decode cX5_isNoWindow 39 = .ok (.ifCond .eq 7, 3) := by decide +kernel
theorem dX5_isNoWindow_42 : decode cX5_isNoWindow 42 = .ok (.iconst 1, 1) := by decide +kernel
theorem dX5_isNoWindow_43 : decode cX5_isNoWindow 43 = .ok (.goto 4, 3) := by decide +kernel
theorem dX5_isNoWindow_46 : decode cX5_isNoWindow 46 = .ok (.iconst 0, 1) := by decide +kernel
theorem dX5_isNoWindow_47 : decode cX5_isNoWindow 47 = .ok (.ireturn, 1) := by decide +kernel
theorem dX5_opposite_0 : decode cX5_opposite 0 = .ok (.iload_n 0, 1) := by decide +kernel
theorem dX5_opposite_1 : decode cX5_opposite 1 = .ok (.iconst 2, 1) := by decide +kernel
theorem dX5_opposite_2 : decode cX5_opposite 2 = .ok (.ixor, 1) := by decide +kernel
theorem dX5_opposite_3 : decode cX5_opposite 3 = .ok (.ireturn, 1) := by decide +kernel
theorem dX5_has_0 : decode cX5_has 0 = .ok (.iload_n 0, 1) := by decide +kernel
theorem dX5_has_1 : decode cX5_has 1 = .ok (.iload_n 1, 1) := by decide +kernel
theorem dX5_has_2 : decode cX5_has 2 = .ok (.ishr, 1) := by decide +kernel
theorem dX5_has_3 : decode cX5_has 3 = .ok (.iconst 1, 1) := by decide +kernel
theorem dX5_has_4 : decode cX5_has 4 = .ok (.iand, 1) := by decide +kernel
theorem dX5_has_5 : decode cX5_has 5 = .ok (.ifCond .eq 7, 3) := by decide +kernel
theorem dX5_has_8 : decode cX5_has 8 = .ok (.iconst 1, 1) := by decide +kernel
theorem dX5_has_9 : decode cX5_has 9 = .ok (.goto 4, 3) := by decide +kernel
theorem dX5_has_12 : decode cX5_has 12 = .ok (.iconst 0, 1) := by decide +kernel
theorem dX5_has_13 : decode cX5_has 13 = .ok (.ireturn, 1) := by decide +kernel
theorem dX5_turned_0 : decode cX5_turned 0 = .ok (.iload_n 0, 1) := by decide +kernel
theorem dX5_turned_1 : decode cX5_turned 1 = .ok (.iload_n 1, 1) := by decide +kernel
theorem dX5_turned_2 : decode cX5_turned 2 = .ok (.ishl, 1) := by decide +kernel
theorem dX5_turned_3 : decode cX5_turned 3 = .ok (.iload_n 0, 1) := by decide +kernel
theorem dX5_turned_4 : decode cX5_turned 4 = .ok (.iconst 4, 1) := by decide +kernel
theorem dX5_turned_5 : decode cX5_turned 5 = .ok (.iload_n 1, 1) := by decide +kernel
theorem dX5_turned_6 : decode cX5_turned 6 = .ok (.isub, 1) := by decide +kernel
theorem dX5_turned_7 : decode cX5_turned 7 = .ok (.ishr, 1) := by decide +kernel
theorem dX5_turned_8 : decode cX5_turned 8 = .ok (.ior, 1) := by decide +kernel
theorem dX5_turned_9 : decode cX5_turned 9 = .ok (.bipush 15, 2) := by decide +kernel
theorem dX5_turned_11 : decode cX5_turned 11 = .ok (.iand, 1) := by decide +kernel
theorem dX5_turned_12 : decode cX5_turned 12 = .ok (.ireturn, 1) := by decide +kernel
theorem dX5_isMeeting_0 : decode cX5_isMeeting 0 = .ok (.iload_n 0, 1) := by decide +kernel
theorem dX5_isMeeting_1 : decode cX5_isMeeting 1 = .ok (.iconst 5, 1) := by decide +kernel
theorem dX5_isMeeting_2 : decode cX5_isMeeting 2 = .ok (.if_icmp .eq 9, 3) := by decide +kernel
theorem dX5_isMeeting_5 : decode cX5_isMeeting 5 = .ok (.iload_n 0, 1) := by decide +kernel
theorem dX5_isMeeting_6 : decode cX5_isMeeting 6 = .ok (.bipush 10, 2) := by decide +kernel
theorem dX5_isMeeting_8 : decode cX5_isMeeting 8 = .ok (.if_icmp .ne 7, 3) := by decide +kernel
theorem dX5_isMeeting_11 : decode cX5_isMeeting 11 = .ok (.iconst 1, 1) := by decide +kernel
theorem dX5_isMeeting_12 : decode cX5_isMeeting 12 = .ok (.goto 4, 3) := by decide +kernel
theorem dX5_isMeeting_15 : decode cX5_isMeeting 15 = .ok (.iconst 0, 1) := by decide +kernel
theorem dX5_isMeeting_16 : decode cX5_isMeeting 16 = .ok (.ireturn, 1) := by decide +kernel
theorem dX5_beside_0 : decode cX5_beside 0 = .ok (.iload_n 1, 1) := by decide +kernel
theorem dX5_beside_1 : decode cX5_beside 1 = .ok (.tableswitch 80 0 2 #[27, 47, 62], 27) := by decide +kernel
theorem dX5_beside_28 : decode cX5_beside 28 = .ok (.iload_n 0, 1) := by decide +kernel
theorem dX5_beside_29 : decode cX5_beside 29 = .ok (.bipush 12, 2) := by decide +kernel
theorem dX5_beside_31 : decode cX5_beside 31 = .ok (.irem, 1) := by decide +kernel
theorem dX5_beside_32 : decode cX5_beside 32 = .ok (.bipush 11, 2) := by decide +kernel
theorem dX5_beside_34 : decode cX5_beside 34 = .ok (.if_icmp .ne 10, 3) := by decide +kernel
theorem dX5_beside_37 : decode cX5_beside 37 = .ok (.iload_n 0, 1) := by decide +kernel
theorem dX5_beside_38 : decode cX5_beside 38 = .ok (.bipush 11, 2) := by decide +kernel
theorem dX5_beside_40 : decode cX5_beside 40 = .ok (.isub, 1) := by decide +kernel
theorem dX5_beside_41 : decode cX5_beside 41 = .ok (.goto 6, 3) := by decide +kernel
theorem dX5_beside_44 : decode cX5_beside 44 = .ok (.iload_n 0, 1) := by decide +kernel
theorem dX5_beside_45 : decode cX5_beside 45 = .ok (.iconst 1, 1) := by decide +kernel
theorem dX5_beside_46 : decode cX5_beside 46 = .ok (.iadd, 1) := by decide +kernel
theorem dX5_beside_47 : decode cX5_beside 47 = .ok (.ireturn, 1) := by decide +kernel
theorem dX5_beside_48 : decode cX5_beside 48 = .ok (.iload_n 0, 1) := by decide +kernel
theorem dX5_beside_49 : decode cX5_beside 49 = .ok (.bipush 12, 2) := by decide +kernel
theorem dX5_beside_51 : decode cX5_beside 51 = .ok (.if_icmp .ge 7, 3) := by decide +kernel
theorem dX5_beside_54 : decode cX5_beside 54 = .ok (.iconst (-1), 1) := by decide +kernel
theorem dX5_beside_55 : decode cX5_beside 55 = .ok (.goto 7, 3) := by decide +kernel
theorem dX5_beside_58 : decode cX5_beside 58 = .ok (.iload_n 0, 1) := by decide +kernel
theorem dX5_beside_59 : decode cX5_beside 59 = .ok (.bipush 12, 2) := by decide +kernel
theorem dX5_beside_61 : decode cX5_beside 61 = .ok (.isub, 1) := by decide +kernel
theorem dX5_beside_62 : decode cX5_beside 62 = .ok (.ireturn, 1) := by decide +kernel
theorem dX5_beside_63 : decode cX5_beside 63 = .ok (.iload_n 0, 1) := by decide +kernel
theorem dX5_beside_64 : decode cX5_beside 64 = .ok (.bipush 12, 2) := by decide +kernel
theorem dX5_beside_66 : decode cX5_beside 66 = .ok (.irem, 1) := by decide +kernel
theorem dX5_beside_67 : decode cX5_beside 67 = .ok (.ifCond .ne 10, 3) := by decide +kernel
theorem dX5_beside_70 : decode cX5_beside 70 = .ok (.iload_n 0, 1) := by decide +kernel
theorem dX5_beside_71 : decode cX5_beside 71 = .ok (.bipush 11, 2) := by decide +kernel
theorem dX5_beside_73 : decode cX5_beside 73 = .ok (.iadd, 1) := by decide +kernel
theorem dX5_beside_74 : decode cX5_beside 74 = .ok (.goto 6, 3) := by decide +kernel
theorem dX5_beside_77 : decode cX5_beside 77 = .ok (.iload_n 0, 1) := by decide +kernel
theorem dX5_beside_78 : decode cX5_beside 78 = .ok (.iconst 1, 1) := by decide +kernel
theorem dX5_beside_79 : decode cX5_beside 79 = .ok (.isub, 1) := by decide +kernel
theorem dX5_beside_80 : decode cX5_beside 80 = .ok (.ireturn, 1) := by decide +kernel
theorem dX5_beside_81 : decode cX5_beside 81 = .ok (.iload_n 0, 1) := by decide +kernel
theorem dX5_beside_82 : decode cX5_beside 82 = .ok (.bipush 84, 2) := by decide +kernel
theorem dX5_beside_84 : decode cX5_beside 84 = .ok (.if_icmp .lt 7, 3) := by decide +kernel
theorem dX5_beside_87 : decode cX5_beside 87 = .ok (.iconst (-1), 1) := by decide +kernel
theorem dX5_beside_88 : decode cX5_beside 88 = .ok (.goto 7, 3) := by decide +kernel
theorem dX5_beside_91 : decode cX5_beside 91 = .ok (.iload_n 0, 1) := by decide +kernel
theorem dX5_beside_92 : decode cX5_beside 92 = .ok (.bipush 12, 2) := by decide +kernel
theorem dX5_beside_94 : decode cX5_beside 94 = .ok (.iadd, 1) := by decide +kernel
theorem dX5_beside_95 : decode cX5_beside 95 = .ok (.ireturn, 1) := by decide +kernel
theorem dX5_bitsOf_0 : decode cX5_bitsOf 0 = .ok (.iconst 0, 1) := by decide +kernel
theorem dX5_bitsOf_1 : decode cX5_bitsOf 1 = .ok (.istore_n 1, 1) := by decide +kernel
theorem dX5_bitsOf_2 : decode cX5_bitsOf 2 = .ok (.aload_n 0, 1) := by decide +kernel
theorem dX5_bitsOf_3 : decode cX5_bitsOf 3 = .ok (.astore_n 2, 1) := by decide +kernel
theorem dX5_bitsOf_4 : decode cX5_bitsOf 4 = .ok (.aload_n 2, 1) := by decide +kernel
theorem dX5_bitsOf_5 : decode cX5_bitsOf 5 = .ok (.arraylength, 1) := by decide +kernel
theorem dX5_bitsOf_6 : decode cX5_bitsOf 6 = .ok (.istore_n 3, 1) := by decide +kernel
theorem dX5_bitsOf_7 : decode cX5_bitsOf 7 = .ok (.iconst 0, 1) := by decide +kernel
theorem dX5_bitsOf_8 : decode cX5_bitsOf 8 = .ok (.istore 4, 2) := by decide +kernel
theorem dX5_bitsOf_10 : decode cX5_bitsOf 10 = .ok (.iload 4, 2) := by decide +kernel
theorem dX5_bitsOf_12 : decode cX5_bitsOf 12 = .ok (.iload_n 3, 1) := by decide +kernel
theorem dX5_bitsOf_13 : decode cX5_bitsOf 13 = .ok (.if_icmp .ge 23, 3) := by decide +kernel
theorem dX5_bitsOf_16 : decode cX5_bitsOf 16 = .ok (.aload_n 2, 1) := by decide +kernel
theorem dX5_bitsOf_17 : decode cX5_bitsOf 17 = .ok (.iload 4, 2) := by decide +kernel
theorem dX5_bitsOf_19 : decode cX5_bitsOf 19 = .ok (.iaload, 1) := by decide +kernel
theorem dX5_bitsOf_20 : decode cX5_bitsOf 20 = .ok (.istore 5, 2) := by decide +kernel
theorem dX5_bitsOf_22 : decode cX5_bitsOf 22 = .ok (.iload_n 1, 1) := by decide +kernel
theorem dX5_bitsOf_23 : decode cX5_bitsOf 23 = .ok (.iload 5, 2) := by decide +kernel
theorem dX5_bitsOf_25 : decode cX5_bitsOf 25 = .ok (.invokestatic 92, 3) := by decide +kernel
theorem dX5_bitsOf_28 : decode cX5_bitsOf 28 = .ok (.iadd, 1) := by decide +kernel
theorem dX5_bitsOf_29 : decode cX5_bitsOf 29 = .ok (.istore_n 1, 1) := by decide +kernel
theorem dX5_bitsOf_30 : decode cX5_bitsOf 30 = .ok (.iinc 4 1, 3) := by decide +kernel
theorem dX5_bitsOf_33 : decode cX5_bitsOf 33 = .ok (.goto (-23), 3) := by decide +kernel
theorem dX5_bitsOf_36 : decode cX5_bitsOf 36 = .ok (.iload_n 1, 1) := by decide +kernel
theorem dX5_bitsOf_37 : decode cX5_bitsOf 37 = .ok (.ireturn, 1) := by decide +kernel
theorem dX5_mayBeWall_0 : decode cX5_mayBeWall 0 = .ok (.aload_n 0, 1) := by decide +kernel
theorem dX5_mayBeWall_1 : decode cX5_mayBeWall 1 = .ok (.getfield 10, 3) := by decide +kernel
theorem dX5_mayBeWall_4 : decode cX5_mayBeWall 4 = .ok (.getfield 57, 3) := by decide +kernel
theorem dX5_mayBeWall_7 : decode cX5_mayBeWall 7 = .ok (.iload_n 1, 1) := by decide +kernel
theorem dX5_mayBeWall_8 : decode cX5_mayBeWall 8 = .ok (.iaload, 1) := by decide +kernel
theorem dX5_mayBeWall_9 : decode cX5_mayBeWall 9 = .ok (.ifCond .ne 41, 3) := by decide +kernel
theorem dX5_mayBeWall_12 : decode cX5_mayBeWall 12 = .ok (.aload_n 0, 1) := by decide +kernel
theorem dX5_mayBeWall_13 : decode cX5_mayBeWall 13 = .ok (.getfield 10, 3) := by decide +kernel
theorem dX5_mayBeWall_16 : decode cX5_mayBeWall 16 = .ok (.getfield 78, 3) := by decide +kernel
theorem dX5_mayBeWall_19 : decode cX5_mayBeWall 19 = .ok (.iload_n 1, 1) := by decide +kernel
theorem dX5_mayBeWall_20 : decode cX5_mayBeWall 20 = .ok (.iaload, 1) := by decide +kernel
theorem dX5_mayBeWall_21 : decode cX5_mayBeWall 21 = .ok (.ifCond .ne 29, 3) := by decide +kernel
theorem dX5_mayBeWall_24 : decode cX5_mayBeWall 24 = .ok (.aload_n 0, 1) := by decide +kernel
theorem dX5_mayBeWall_25 : decode cX5_mayBeWall 25 = .ok (.getfield 22, 3) := by decide +kernel
theorem dX5_mayBeWall_28 : decode cX5_mayBeWall 28 = .ok (.iload_n 1, 1) := by decide +kernel
theorem dX5_mayBeWall_29 : decode cX5_mayBeWall 29 = .ok (.invokevirtual 232, 3) := by decide +kernel
theorem dX5_mayBeWall_32 : decode cX5_mayBeWall 32 = .ok (.ifCond .ne 18, 3) := by decide +kernel
theorem dX5_mayBeWall_35 : decode cX5_mayBeWall 35 = .ok (.aload_n 0, 1) := by decide +kernel
theorem dX5_mayBeWall_36 : decode cX5_mayBeWall 36 = .ok (.getfield 29, 3) := by decide +kernel
theorem dX5_mayBeWall_39 : decode cX5_mayBeWall 39 = .ok (.iload_n 1, 1) := by decide +kernel
theorem dX5_mayBeWall_40 : decode cX5_mayBeWall 40 = .ok (.invokevirtual 235, 3) := by decide +kernel
theorem dX5_mayBeWall_43 : decode cX5_mayBeWall 43 = .ok (.ifCond .ne 7, 3) := by decide +kernel
theorem dX5_mayBeWall_46 : decode cX5_mayBeWall 46 = .ok (.iconst 1, 1) := by decide +kernel
theorem dX5_mayBeWall_47 : decode cX5_mayBeWall 47 = .ok (.goto 4, 3) := by decide +kernel
theorem dX5_mayBeWall_50 : decode cX5_mayBeWall 50 = .ok (.iconst 0, 1) := by decide +kernel
theorem dX5_mayBeWall_51 : decode cX5_mayBeWall 51 = .ok (.ireturn, 1) := by decide +kernel
theorem dX5_tallyOf_0 : decode cX5_tallyOf 0 = .ok (.new 186, 3) := by decide +kernel
theorem dX5_tallyOf_3 : decode cX5_tallyOf 3 = .ok (.dup, 1) := by decide +kernel
theorem dX5_tallyOf_4 : decode cX5_tallyOf 4 = .ok (.invokespecial 236, 3) := by decide +kernel
theorem dX5_tallyOf_7 : decode cX5_tallyOf 7 = .ok (.astore 4, 2) := by decide +kernel
theorem dX5_tallyOf_9 : decode cX5_tallyOf 9 = .ok (.iconst 0, 1) := by decide +kernel
theorem dX5_tallyOf_10 : decode cX5_tallyOf 10 = .ok (.istore 5, 2) := by decide +kernel
theorem dX5_tallyOf_12 : decode cX5_tallyOf 12 = .ok (.iload 5, 2) := by decide +kernel
theorem dX5_tallyOf_14 : decode cX5_tallyOf 14 = .ok (.bipush 96, 2) := by decide +kernel
theorem dX5_tallyOf_16 : decode cX5_tallyOf 16 = .ok (.if_icmp .ge 66, 3) := by decide +kernel
theorem dX5_tallyOf_19 : decode cX5_tallyOf 19 = .ok (.aload_n 0, 1) := by decide +kernel
theorem dX5_tallyOf_20 : decode cX5_tallyOf 20 = .ok (.getfield 10, 3) := by decide +kernel
theorem dX5_tallyOf_23 : decode cX5_tallyOf 23 = .ok (.getfield 57, 3) := by decide +kernel
theorem dX5_tallyOf_26 : decode cX5_tallyOf 26 = .ok (.iload 5, 2) := by decide +kernel
theorem dX5_tallyOf_28 : decode cX5_tallyOf 28 = .ok (.iaload, 1) := by decide +kernel
theorem dX5_tallyOf_29 : decode cX5_tallyOf 29 = .ok (.iconst 1, 1) := by decide +kernel
theorem dX5_tallyOf_30 : decode cX5_tallyOf 30 = .ok (.if_icmp .eq 46, 3) := by decide +kernel
theorem dX5_tallyOf_33 : decode cX5_tallyOf 33 = .ok (.aload_n 3, 1) := by decide +kernel
theorem dX5_tallyOf_34 : decode cX5_tallyOf 34 = .ok (.iload 5, 2) := by decide +kernel
theorem dX5_tallyOf_36 : decode cX5_tallyOf 36 = .ok (.invokevirtual 237, 3) := by decide +kernel
theorem dX5_tallyOf_39 : decode cX5_tallyOf 39 = .ok (.ifCond .eq 37, 3) := by decide +kernel
theorem dX5_tallyOf_42 : decode cX5_tallyOf 42 = .ok (.aload 4, 2) := by decide +kernel
theorem dX5_tallyOf_44 : decode cX5_tallyOf 44 = .ok (.iload_n 1, 1) := by decide +kernel
theorem dX5_tallyOf_45 : decode cX5_tallyOf 45 = .ok (.ifCond .eq 17, 3) := by decide +kernel
theorem dX5_tallyOf_48 : decode cX5_tallyOf 48 = .ok (.aload_n 0, 1) := by decide +kernel
theorem dX5_tallyOf_49 : decode cX5_tallyOf 49 = .ok (.getfield 22, 3) := by decide +kernel
theorem dX5_tallyOf_52 : decode cX5_tallyOf 52 = .ok (.iload 5, 2) := by decide +kernel
theorem dX5_tallyOf_54 : decode cX5_tallyOf 54 = .ok (.iload_n 2, 1) := by decide +kernel
theorem dX5_tallyOf_55 : decode cX5_tallyOf 55 = .ok (.invokevirtual 240, 3) := by decide +kernel
theorem dX5_tallyOf_58 : decode cX5_tallyOf 58 = .ok (.i2l, 1) := by decide +kernel
theorem dX5_tallyOf_59 : decode cX5_tallyOf 59 = .ok (.goto 14, 3) := by decide +kernel
theorem dX5_tallyOf_62 : decode cX5_tallyOf 62 = .ok (.aload_n 0, 1) := by decide +kernel
theorem dX5_tallyOf_63 : decode cX5_tallyOf 63 = .ok (.getfield 10, 3) := by decide +kernel
theorem dX5_tallyOf_66 : decode cX5_tallyOf 66 = .ok (.iload 5, 2) := by decide +kernel
theorem dX5_tallyOf_68 : decode cX5_tallyOf 68 = .ok (.iload_n 2, 1) := by decide +kernel
theorem dX5_tallyOf_69 : decode cX5_tallyOf 69 = .ok (.invokevirtual 244, 3) := by decide +kernel
theorem dX5_tallyOf_72 : decode cX5_tallyOf 72 = .ok (.i2l, 1) := by decide +kernel
theorem dX5_tallyOf_73 : decode cX5_tallyOf 73 = .ok (.invokevirtual 245, 3) := by decide +kernel
theorem dX5_tallyOf_76 : decode cX5_tallyOf 76 = .ok (.iinc 5 1, 3) := by decide +kernel
theorem dX5_tallyOf_79 : decode cX5_tallyOf 79 = .ok (.goto (-67), 3) := by decide +kernel
theorem dX5_tallyOf_82 : decode cX5_tallyOf 82 = .ok (.aload 4, 2) := by decide +kernel
theorem dX5_tallyOf_84 : decode cX5_tallyOf 84 = .ok (.areturn, 1) := by decide +kernel
theorem dX5_arrived_0 : decode cX5_arrived 0 = .ok (.aload_n 0, 1) := by decide +kernel
theorem dX5_arrived_1 : decode cX5_arrived 1 = .ok (.iload_n 1, 1) := by decide +kernel
theorem dX5_arrived_2 : decode cX5_arrived 2 = .ok (.invokevirtual 249, 3) := by decide +kernel
theorem dX5_arrived_5 : decode cX5_arrived 5 = .ok (.ifCond .ne 8, 3) := by decide +kernel
theorem dX5_arrived_8 : decode cX5_arrived 8 = .ok (.iload_n 2, 1) := by decide +kernel
theorem dX5_arrived_9 : decode cX5_arrived 9 = .ok (.iconst 5, 1) := by decide +kernel
theorem dX5_arrived_10 : decode cX5_arrived 10 = .ok (.if_icmp .le 5, 3) := by decide +kernel
theorem dX5_arrived_13 : decode cX5_arrived 13 = .ok (.iconst 0, 1) := by decide +kernel
theorem dX5_arrived_14 : decode cX5_arrived 14 = .ok (.ireturn, 1) := by decide +kernel
theorem dX5_arrived_15 : decode cX5_arrived 15 = .ok (.iload_n 2, 1) := by decide +kernel
theorem dX5_arrived_16 : decode cX5_arrived 16 = .ok (.ifCond .gt 10, 3) := by decide +kernel
theorem dX5_arrived_19 : decode cX5_arrived 19 = .ok (.aload_n 0, 1) := by decide +kernel
theorem dX5_arrived_20 : decode cX5_arrived 20 = .ok (.getfield 78, 3) := by decide +kernel
theorem dX5_arrived_23 : decode cX5_arrived 23 = .ok (.iload_n 1, 1) := by decide +kernel
theorem dX5_arrived_24 : decode cX5_arrived 24 = .ok (.iaload, 1) := by decide +kernel
theorem dX5_arrived_25 : decode cX5_arrived 25 = .ok (.ireturn, 1) := by decide +kernel
theorem dX5_arrived_26 : decode cX5_arrived 26 = .ok (.aload_n 0, 1) := by decide +kernel
theorem dX5_arrived_27 : decode cX5_arrived 27 = .ok (.getfield 57, 3) := by decide +kernel
theorem dX5_arrived_30 : decode cX5_arrived 30 = .ok (.iload_n 1, 1) := by decide +kernel
theorem dX5_arrived_31 : decode cX5_arrived 31 = .ok (.iaload, 1) := by decide +kernel
theorem dX5_arrived_32 : decode cX5_arrived 32 = .ok (.iconst 3, 1) := by decide +kernel
theorem dX5_arrived_33 : decode cX5_arrived 33 = .ok (.if_icmp .ne 5, 3) := by decide +kernel
theorem dX5_arrived_36 : decode cX5_arrived 36 = .ok (.iconst 0, 1) := by decide +kernel
theorem dX5_arrived_37 : decode cX5_arrived 37 = .ok (.ireturn, 1) := by decide +kernel
theorem dX5_arrived_38 : decode cX5_arrived 38 = .ok (.aload_n 0, 1) := by decide +kernel
theorem dX5_arrived_39 : decode cX5_arrived 39 = .ok (.getfield 57, 3) := by decide +kernel
theorem dX5_arrived_42 : decode cX5_arrived 42 = .ok (.iload_n 1, 1) := by decide +kernel
theorem dX5_arrived_43 : decode cX5_arrived 43 = .ok (.iaload, 1) := by decide +kernel
theorem dX5_arrived_44 : decode cX5_arrived 44 = .ok (.iconst 2, 1) := by decide +kernel
theorem dX5_arrived_45 : decode cX5_arrived 45 = .ok (.if_icmp .ne 7, 3) := by decide +kernel
theorem dX5_arrived_48 : decode cX5_arrived 48 = .ok (.iconst 1, 1) := by decide +kernel
theorem dX5_arrived_49 : decode cX5_arrived 49 = .ok (.goto 4, 3) := by decide +kernel
theorem dX5_arrived_52 : decode cX5_arrived 52 = .ok (.iconst 0, 1) := by decide +kernel
theorem dX5_arrived_53 : decode cX5_arrived 53 = .ok (.istore_n 3, 1) := by decide +kernel
theorem dX5_arrived_54 : decode cX5_arrived 54 = .ok (.iconst 0, 1) := by decide +kernel
theorem dX5_arrived_55 : decode cX5_arrived 55 = .ok (.istore 4, 2) := by decide +kernel
theorem dX5_arrived_57 : decode cX5_arrived 57 = .ok (.iload 4, 2) := by decide +kernel
theorem dX5_arrived_59 : decode cX5_arrived 59 = .ok (.iconst 4, 1) := by decide +kernel
theorem dX5_arrived_60 : decode cX5_arrived 60 = .ok (.if_icmp .ge 99, 3) := by decide +kernel
theorem dX5_arrived_63 : decode cX5_arrived 63 = .ok (.iload_n 1, 1) := by decide +kernel
theorem dX5_arrived_64 : decode cX5_arrived 64 = .ok (.iload 4, 2) := by decide +kernel
theorem dX5_arrived_66 : decode cX5_arrived 66 = .ok (.invokestatic 158, 3) := by decide +kernel
theorem dX5_arrived_69 : decode cX5_arrived 69 = .ok (.invokestatic 252, 3) := by decide +kernel
theorem dX5_arrived_72 : decode cX5_arrived 72 = .ok (.istore 5, 2) := by decide +kernel
theorem dX5_arrived_74 : decode cX5_arrived 74 = .ok (.aload_n 0, 1) := by decide +kernel
theorem dX5_arrived_75 : decode cX5_arrived 75 = .ok (.iload 5, 2) := by decide +kernel
theorem dX5_arrived_77 : decode cX5_arrived 77 = .ok (.invokevirtual 249, 3) := by decide +kernel
theorem dX5_arrived_80 : decode cX5_arrived 80 = .ok (.istore 6, 2) := by decide +kernel
theorem dX5_arrived_82 : decode cX5_arrived 82 = .ok (.aload_n 0, 1) := by decide +kernel
theorem dX5_arrived_83 : decode cX5_arrived 83 = .ok (.iload 6, 2) := by decide +kernel
theorem dX5_arrived_85 : decode cX5_arrived 85 = .ok (.ifCond .eq 7, 3) := by decide +kernel
theorem dX5_arrived_88 : decode cX5_arrived 88 = .ok (.iload_n 1, 1) := by decide +kernel
theorem dX5_arrived_89 : decode cX5_arrived 89 = .ok (.goto 5, 3) := by decide +kernel
theorem dX5_arrived_92 : decode cX5_arrived 92 = .ok (.iload 5, 2) := by decide +kernel
theorem dX5_arrived_94 : decode cX5_arrived 94 = .ok (.iload_n 2, 1) := by decide +kernel
theorem dX5_arrived_95 : decode cX5_arrived 95 = .ok (.iconst 1, 1) := by decide +kernel
theorem dX5_arrived_96 : decode cX5_arrived 96 = .ok (.isub, 1) := by decide +kernel
theorem dX5_arrived_97 : decode cX5_arrived 97 = .ok (.invokestatic 207, 3) := by decide +kernel
theorem dX5_arrived_100 : decode cX5_arrived 100 = .ok (.istore 7, 2) := by decide +kernel
theorem dX5_arrived_102 : decode cX5_arrived 102 = .ok (.iload 7, 2) := by decide +kernel
theorem dX5_arrived_104 : decode cX5_arrived 104 = .ok (.invokestatic 255, 3) := by decide +kernel
theorem dX5_arrived_107 : decode cX5_arrived 107 = .ok (.ifCond .eq 12, 3) := by decide +kernel
theorem dX5_arrived_110 : decode cX5_arrived 110 = .ok (.iload 7, 2) := by decide +kernel
theorem dX5_arrived_112 : decode cX5_arrived 112 = .ok (.iconst 1, 1) := by decide +kernel
theorem dX5_arrived_113 : decode cX5_arrived 113 = .ok (.invokestatic 258, 3) := by decide +kernel
theorem dX5_arrived_116 : decode cX5_arrived 116 = .ok (.goto 5, 3) := by decide +kernel
theorem dX5_arrived_119 : decode cX5_arrived 119 = .ok (.iload 7, 2) := by decide +kernel
theorem dX5_arrived_121 : decode cX5_arrived 121 = .ok (.istore 8, 2) := by decide +kernel
theorem dX5_arrived_123 : decode cX5_arrived 123 = .ok (.iload 8, 2) := by decide +kernel
theorem dX5_arrived_125 : decode cX5_arrived 125 = .ok (.iload 6, 2) := by decide +kernel
theorem dX5_arrived_127 : decode cX5_arrived 127 = .ok (.ifCond .eq 11, 3) := by decide +kernel
theorem dX5_arrived_130 : decode cX5_arrived 130 = .ok (.iload 4, 2) := by decide +kernel
theorem dX5_arrived_132 : decode cX5_arrived 132 = .ok (.invokestatic 158, 3) := by decide +kernel
theorem dX5_arrived_135 : decode cX5_arrived 135 = .ok (.goto 5, 3) := by decide +kernel
theorem dX5_arrived_138 : decode cX5_arrived 138 = .ok (.iload 4, 2) := by decide +kernel
theorem dX5_arrived_140 : decode cX5_arrived 140 = .ok (.invokestatic 81, 3) := by decide +kernel
theorem dX5_arrived_143 : decode cX5_arrived 143 = .ok (.ifCond .eq 10, 3) := by decide +kernel
theorem dX5_arrived_146 : decode cX5_arrived 146 = .ok (.iload_n 3, 1) := by decide +kernel
theorem dX5_arrived_147 : decode cX5_arrived 147 = .ok (.iconst 1, 1) := by decide +kernel
theorem dX5_arrived_148 : decode cX5_arrived 148 = .ok (.iload 4, 2) := by decide +kernel
theorem dX5_arrived_150 : decode cX5_arrived 150 = .ok (.ishl, 1) := by decide +kernel
theorem dX5_arrived_151 : decode cX5_arrived 151 = .ok (.ior, 1) := by decide +kernel
theorem dX5_arrived_152 : decode cX5_arrived 152 = .ok (.istore_n 3, 1) := by decide +kernel
theorem dX5_arrived_153 : decode cX5_arrived 153 = .ok (.iinc 4 1, 3) := by decide +kernel
theorem dX5_arrived_156 : decode cX5_arrived 156 = .ok (.goto (-99), 3) := by decide +kernel
theorem dX5_arrived_159 : decode cX5_arrived 159 = .ok (.iload_n 3, 1) := by decide +kernel
theorem dX5_arrived_160 : decode cX5_arrived 160 = .ok (.ireturn, 1) := by decide +kernel
theorem dX5_edgesOfInk_0 : decode cX5_edgesOfInk 0 = .ok (.iconst 0, 1) := by decide +kernel
theorem dX5_edgesOfInk_1 : decode cX5_edgesOfInk 1 = .ok (.istore_n 1, 1) := by decide +kernel
theorem dX5_edgesOfInk_2 : decode cX5_edgesOfInk 2 = .ok (.iconst 0, 1) := by decide +kernel
theorem dX5_edgesOfInk_3 : decode cX5_edgesOfInk 3 = .ok (.istore_n 2, 1) := by decide +kernel
theorem dX5_edgesOfInk_4 : decode cX5_edgesOfInk 4 = .ok (.iload_n 2, 1) := by decide +kernel
theorem dX5_edgesOfInk_5 : decode cX5_edgesOfInk 5 = .ok (.bipush 96, 2) := by decide +kernel
theorem dX5_edgesOfInk_7 : decode cX5_edgesOfInk 7 = .ok (.if_icmp .ge 51, 3) := by decide +kernel
theorem dX5_edgesOfInk_10 : decode cX5_edgesOfInk 10 = .ok (.iload_n 1, 1) := by decide +kernel
theorem dX5_edgesOfInk_11 : decode cX5_edgesOfInk 11 = .ok (.aload_n 0, 1) := by decide +kernel
theorem dX5_edgesOfInk_12 : decode cX5_edgesOfInk 12 = .ok (.iload_n 2, 1) := by decide +kernel
theorem dX5_edgesOfInk_13 : decode cX5_edgesOfInk 13 = .ok (.iload_n 2, 1) := by decide +kernel
theorem dX5_edgesOfInk_14 : decode cX5_edgesOfInk 14 = .ok (.iconst 0, 1) := by decide +kernel
theorem dX5_edgesOfInk_15 : decode cX5_edgesOfInk 15 = .ok (.invokestatic 252, 3) := by decide +kernel
theorem dX5_edgesOfInk_18 : decode cX5_edgesOfInk 18 = .ok (.invokevirtual 261, 3) := by decide +kernel
theorem dX5_edgesOfInk_21 : decode cX5_edgesOfInk 21 = .ok (.ifCond .eq 7, 3) := by decide +kernel
theorem dX5_edgesOfInk_24 : decode cX5_edgesOfInk 24 = .ok (.iconst 1, 1) := by decide +kernel
theorem dX5_edgesOfInk_25 : decode cX5_edgesOfInk 25 = .ok (.goto 4, 3) := by decide +kernel
theorem dX5_edgesOfInk_28 : decode cX5_edgesOfInk 28 = .ok (.iconst 0, 1) := by decide +kernel
theorem dX5_edgesOfInk_29 : decode cX5_edgesOfInk 29 = .ok (.iadd, 1) := by decide +kernel
theorem dX5_edgesOfInk_30 : decode cX5_edgesOfInk 30 = .ok (.istore_n 1, 1) := by decide +kernel
theorem dX5_edgesOfInk_31 : decode cX5_edgesOfInk 31 = .ok (.iload_n 1, 1) := by decide +kernel
theorem dX5_edgesOfInk_32 : decode cX5_edgesOfInk 32 = .ok (.aload_n 0, 1) := by decide +kernel
theorem dX5_edgesOfInk_33 : decode cX5_edgesOfInk 33 = .ok (.iload_n 2, 1) := by decide +kernel
theorem dX5_edgesOfInk_34 : decode cX5_edgesOfInk 34 = .ok (.iload_n 2, 1) := by decide +kernel
theorem dX5_edgesOfInk_35 : decode cX5_edgesOfInk 35 = .ok (.iconst 3, 1) := by decide +kernel
theorem dX5_edgesOfInk_36 : decode cX5_edgesOfInk 36 = .ok (.invokestatic 252, 3) := by decide +kernel
theorem dX5_edgesOfInk_39 : decode cX5_edgesOfInk 39 = .ok (.invokevirtual 261, 3) := by decide +kernel
theorem dX5_edgesOfInk_42 : decode cX5_edgesOfInk 42 = .ok (.ifCond .eq 7, 3) := by decide +kernel
theorem dX5_edgesOfInk_45 : decode cX5_edgesOfInk 45 = .ok (.iconst 1, 1) := by decide +kernel
theorem dX5_edgesOfInk_46 : decode cX5_edgesOfInk 46 = .ok (.goto 4, 3) := by decide +kernel
theorem dX5_edgesOfInk_49 : decode cX5_edgesOfInk 49 = .ok (.iconst 0, 1) := by decide +kernel
theorem dX5_edgesOfInk_50 : decode cX5_edgesOfInk 50 = .ok (.iadd, 1) := by decide +kernel
theorem dX5_edgesOfInk_51 : decode cX5_edgesOfInk 51 = .ok (.istore_n 1, 1) := by decide +kernel
theorem dX5_edgesOfInk_52 : decode cX5_edgesOfInk 52 = .ok (.iinc 2 1, 3) := by decide +kernel
theorem dX5_edgesOfInk_55 : decode cX5_edgesOfInk 55 = .ok (.goto (-51), 3) := by decide +kernel
theorem dX5_edgesOfInk_58 : decode cX5_edgesOfInk 58 = .ok (.iload_n 1, 1) := by decide +kernel
theorem dX5_edgesOfInk_59 : decode cX5_edgesOfInk 59 = .ok (.ireturn, 1) := by decide +kernel
theorem dX5_isEdgeOfInk_0 : decode cX5_isEdgeOfInk 0 = .ok (.iload_n 1, 1) := by decide +kernel
theorem dX5_isEdgeOfInk_1 : decode cX5_isEdgeOfInk 1 = .ok (.invokestatic 37, 3) := by decide +kernel
theorem dX5_isEdgeOfInk_4 : decode cX5_isEdgeOfInk 4 = .ok (.ifCond .ne 10, 3) := by decide +kernel
theorem dX5_isEdgeOfInk_7 : decode cX5_isEdgeOfInk 7 = .ok (.iload_n 2, 1) := by decide +kernel
theorem dX5_isEdgeOfInk_8 : decode cX5_isEdgeOfInk 8 = .ok (.invokestatic 37, 3) := by decide +kernel
theorem dX5_isEdgeOfInk_11 : decode cX5_isEdgeOfInk 11 = .ok (.ifCond .eq 5, 3) := by decide +kernel
theorem dX5_isEdgeOfInk_14 : decode cX5_isEdgeOfInk 14 = .ok (.iconst 0, 1) := by decide +kernel
theorem dX5_isEdgeOfInk_15 : decode cX5_isEdgeOfInk 15 = .ok (.ireturn, 1) := by decide +kernel
theorem dX5_isEdgeOfInk_16 : decode cX5_isEdgeOfInk 16 = .ok (.aload_n 0, 1) := by decide +kernel
theorem dX5_isEdgeOfInk_17 : decode cX5_isEdgeOfInk 17 = .ok (.getfield 10, 3) := by decide +kernel
theorem dX5_isEdgeOfInk_20 : decode cX5_isEdgeOfInk 20 = .ok (.iload_n 1, 1) := by decide +kernel
theorem dX5_isEdgeOfInk_21 : decode cX5_isEdgeOfInk 21 = .ok (.invokevirtual 264, 3) := by decide +kernel
theorem dX5_isEdgeOfInk_24 : decode cX5_isEdgeOfInk 24 = .ok (.ifCond .eq 14, 3) := by decide +kernel
theorem dX5_isEdgeOfInk_27 : decode cX5_isEdgeOfInk 27 = .ok (.aload_n 0, 1) := by decide +kernel
theorem dX5_isEdgeOfInk_28 : decode cX5_isEdgeOfInk 28 = .ok (.getfield 10, 3) := by decide +kernel
theorem dX5_isEdgeOfInk_31 : decode cX5_isEdgeOfInk 31 = .ok (.iload_n 2, 1) := by decide +kernel
theorem dX5_isEdgeOfInk_32 : decode cX5_isEdgeOfInk 32 = .ok (.invokevirtual 267, 3) := by decide +kernel
theorem dX5_isEdgeOfInk_35 : decode cX5_isEdgeOfInk 35 = .ok (.ifCond .ne 25, 3) := by decide +kernel
theorem dX5_isEdgeOfInk_38 : decode cX5_isEdgeOfInk 38 = .ok (.aload_n 0, 1) := by decide +kernel
theorem dX5_isEdgeOfInk_39 : decode cX5_isEdgeOfInk 39 = .ok (.getfield 10, 3) := by decide +kernel
theorem dX5_isEdgeOfInk_42 : decode cX5_isEdgeOfInk 42 = .ok (.iload_n 1, 1) := by decide +kernel
theorem dX5_isEdgeOfInk_43 : decode cX5_isEdgeOfInk 43 = .ok (.invokevirtual 267, 3) := by decide +kernel
theorem dX5_isEdgeOfInk_46 : decode cX5_isEdgeOfInk 46 = .ok (.ifCond .eq 18, 3) := by decide +kernel
theorem dX5_isEdgeOfInk_49 : decode cX5_isEdgeOfInk 49 = .ok (.aload_n 0, 1) := by decide +kernel
theorem dX5_isEdgeOfInk_50 : decode cX5_isEdgeOfInk 50 = .ok (.getfield 10, 3) := by decide +kernel
theorem dX5_isEdgeOfInk_53 : decode cX5_isEdgeOfInk 53 = .ok (.iload_n 2, 1) := by decide +kernel
theorem dX5_isEdgeOfInk_54 : decode cX5_isEdgeOfInk 54 = .ok (.invokevirtual 264, 3) := by decide +kernel
theorem dX5_isEdgeOfInk_57 : decode cX5_isEdgeOfInk 57 = .ok (.ifCond .eq 7, 3) := by decide +kernel
theorem dX5_isEdgeOfInk_60 : decode cX5_isEdgeOfInk 60 = .ok (.iconst 1, 1) := by decide +kernel
theorem dX5_isEdgeOfInk_61 : decode cX5_isEdgeOfInk 61 = .ok (.goto 4, 3) := by decide +kernel
theorem dX5_isEdgeOfInk_64 : decode cX5_isEdgeOfInk 64 = .ok (.iconst 0, 1) := by decide +kernel
theorem dX5_isEdgeOfInk_65 : decode cX5_isEdgeOfInk 65 = .ok (.ireturn, 1) := by decide +kernel
theorem dX5_unevenInk_0 : decode cX5_unevenInk 0 = .ok (.aload_n 0, 1) := by decide +kernel
theorem dX5_unevenInk_1 : decode cX5_unevenInk 1 = .ok (.getfield 10, 3) := by decide +kernel
theorem dX5_unevenInk_4 : decode cX5_unevenInk 4 = .ok (.getfield 78, 3) := by decide +kernel
theorem dX5_unevenInk_7 : decode cX5_unevenInk 7 = .ok (.invokestatic 148, 3) := by decide +kernel
theorem dX5_unevenInk_10 : decode cX5_unevenInk 10 = .ok (.i2l, 1) := by decide +kernel
theorem dX5_unevenInk_11 : decode cX5_unevenInk 11 = .ok (.lstore_n 1, 1) := by decide +kernel
theorem dX5_unevenInk_12 : decode cX5_unevenInk 12 = .ok (.aload_n 0, 1) := by decide +kernel
theorem dX5_unevenInk_13 : decode cX5_unevenInk 13 = .ok (.getfield 10, 3) := by decide +kernel
theorem dX5_unevenInk_16 : decode cX5_unevenInk 16 = .ok (.getfield 89, 3) := by decide +kernel
theorem dX5_unevenInk_19 : decode cX5_unevenInk 19 = .ok (.invokestatic 148, 3) := by decide +kernel
theorem dX5_unevenInk_22 : decode cX5_unevenInk 22 = .ok (.i2l, 1) := by decide +kernel
theorem dX5_unevenInk_23 : decode cX5_unevenInk 23 = .ok (.lstore_n 3, 1) := by decide +kernel
theorem dX5_unevenInk_24 : decode cX5_unevenInk 24 = .ok (.lconst 0, 1) := by decide +kernel
theorem dX5_unevenInk_25 : decode cX5_unevenInk 25 = .ok (.lstore 5, 2) := by decide +kernel
theorem dX5_unevenInk_27 : decode cX5_unevenInk 27 = .ok (.iconst 0, 1) := by decide +kernel
theorem dX5_unevenInk_28 : decode cX5_unevenInk 28 = .ok (.istore 7, 2) := by decide +kernel
theorem dX5_unevenInk_30 : decode cX5_unevenInk 30 = .ok (.iload 7, 2) := by decide +kernel
theorem dX5_unevenInk_32 : decode cX5_unevenInk 32 = .ok (.bipush 8, 2) := by decide +kernel
theorem dX5_unevenInk_34 : decode cX5_unevenInk 34 = .ok (.if_icmp .ge 87, 3) := by decide +kernel
theorem dX5_unevenInk_37 : decode cX5_unevenInk 37 = .ok (.iconst 0, 1) := by decide +kernel
theorem dX5_unevenInk_38 : decode cX5_unevenInk 38 = .ok (.istore 8, 2) := by decide +kernel
theorem dX5_unevenInk_40 : decode cX5_unevenInk 40 = .ok (.iload 8, 2) := by decide +kernel
theorem dX5_unevenInk_42 : decode cX5_unevenInk 42 = .ok (.bipush 12, 2) := by decide +kernel
theorem dX5_unevenInk_44 : decode cX5_unevenInk 44 = .ok (.if_icmp .ge 71, 3) := by decide +kernel
theorem dX5_unevenInk_47 : decode cX5_unevenInk 47 = .ok (.new 176, 3) := by decide +kernel
theorem dX5_unevenInk_50 : decode cX5_unevenInk 50 = .ok (.dup, 1) := by decide +kernel
theorem dX5_unevenInk_51 : decode cX5_unevenInk 51 = .ok (.iload 7, 2) := by decide +kernel
theorem dX5_unevenInk_53 : decode cX5_unevenInk 53 = .ok (.iload 8, 2) := by decide +kernel
theorem dX5_unevenInk_55 : decode cX5_unevenInk 55 = .ok (.iconst 2, 1) := by decide +kernel
theorem dX5_unevenInk_56 : decode cX5_unevenInk 56 = .ok (.iconst 2, 1) := by decide +kernel
theorem dX5_unevenInk_57 : decode cX5_unevenInk 57 = .ok (.invokespecial 178, 3) := by decide +kernel
theorem dX5_unevenInk_60 : decode cX5_unevenInk 60 = .ok (.astore 9, 2) := by decide +kernel
theorem dX5_unevenInk_62 : decode cX5_unevenInk 62 = .ok (.aload 9, 2) := by decide +kernel
theorem dX5_unevenInk_64 : decode cX5_unevenInk 64 = .ok (.aload_n 0, 1) := by decide +kernel
theorem dX5_unevenInk_65 : decode cX5_unevenInk 65 = .ok (.getfield 10, 3) := by decide +kernel
theorem dX5_unevenInk_68 : decode cX5_unevenInk 68 = .ok (.getfield 89, 3) := by decide +kernel
theorem dX5_unevenInk_71 : decode cX5_unevenInk 71 = .ok (.invokestatic 270, 3) := by decide +kernel
theorem dX5_unevenInk_74 : decode cX5_unevenInk 74 = .ok (.i2l, 1) := by decide +kernel
theorem dX5_unevenInk_75 : decode cX5_unevenInk 75 = .ok (.lstore 10, 2) := by decide +kernel
theorem dX5_unevenInk_77 : decode cX5_unevenInk 77 = .ok (.aload 9, 2) := by decide +kernel
theorem dX5_unevenInk_79 : decode cX5_unevenInk 79 = .ok (.aload_n 0, 1) := by decide +kernel
theorem dX5_unevenInk_80 : decode cX5_unevenInk 80 = .ok (.getfield 10, 3) := by decide +kernel
theorem dX5_unevenInk_83 : decode cX5_unevenInk 83 = .ok (.getfield 78, 3) := by decide +kernel
theorem dX5_unevenInk_86 : decode cX5_unevenInk 86 = .ok (.invokestatic 270, 3) := by decide +kernel
theorem dX5_unevenInk_89 : decode cX5_unevenInk 89 = .ok (.i2l, 1) := by decide +kernel
theorem dX5_unevenInk_90 : decode cX5_unevenInk 90 = .ok (.lstore 12, 2) := by decide +kernel
theorem dX5_unevenInk_92 : decode cX5_unevenInk 92 = .ok (.lload 5, 2) := by decide +kernel
theorem dX5_unevenInk_94 : decode cX5_unevenInk 94 = .ok (.lload 10, 2) := by decide +kernel
theorem dX5_unevenInk_96 : decode cX5_unevenInk 96 = .ok (.lload_n 1, 1) := by decide +kernel
theorem dX5_unevenInk_97 : decode cX5_unevenInk 97 = .ok (.lmul, 1) := by decide +kernel
theorem dX5_unevenInk_98 : decode cX5_unevenInk 98 = .ok (.lload_n 3, 1) := by decide +kernel
theorem dX5_unevenInk_99 : decode cX5_unevenInk 99 = .ok (.lload 12, 2) := by decide +kernel
theorem dX5_unevenInk_101 : decode cX5_unevenInk 101 = .ok (.lmul, 1) := by decide +kernel
theorem dX5_unevenInk_102 : decode cX5_unevenInk 102 = .ok (.lsub, 1) := by decide +kernel
theorem dX5_unevenInk_103 : decode cX5_unevenInk 103 = .ok (.invokestatic 274, 3) := by decide +kernel
theorem dX5_unevenInk_106 : decode cX5_unevenInk 106 = .ok (.ladd, 1) := by decide +kernel
theorem dX5_unevenInk_107 : decode cX5_unevenInk 107 = .ok (.lstore 5, 2) := by decide +kernel
theorem dX5_unevenInk_109 : decode cX5_unevenInk 109 = .ok (.iinc 8 2, 3) := by decide +kernel
theorem dX5_unevenInk_112 : decode cX5_unevenInk 112 = .ok (.goto (-72), 3) := by decide +kernel
theorem dX5_unevenInk_115 : decode cX5_unevenInk 115 = .ok (.iinc 7 2, 3) := by decide +kernel
theorem dX5_unevenInk_118 : decode cX5_unevenInk 118 = .ok (.goto (-88), 3) := by decide +kernel
theorem dX5_unevenInk_121 : decode cX5_unevenInk 121 = .ok (.lload 5, 2) := by decide +kernel
theorem dX5_unevenInk_123 : decode cX5_unevenInk 123 = .ok (.lreturn, 1) := by decide +kernel
theorem dX5_bitsWithin_0 : decode cX5_bitsWithin 0 = .ok (.iconst 0, 1) := by decide +kernel
theorem dX5_bitsWithin_1 : decode cX5_bitsWithin 1 = .ok (.istore_n 2, 1) := by decide +kernel
theorem dX5_bitsWithin_2 : decode cX5_bitsWithin 2 = .ok (.iconst 0, 1) := by decide +kernel
theorem dX5_bitsWithin_3 : decode cX5_bitsWithin 3 = .ok (.istore_n 3, 1) := by decide +kernel
theorem dX5_bitsWithin_4 : decode cX5_bitsWithin 4 = .ok (.iload_n 3, 1) := by decide +kernel
theorem dX5_bitsWithin_5 : decode cX5_bitsWithin 5 = .ok (.bipush 96, 2) := by decide +kernel
theorem dX5_bitsWithin_7 : decode cX5_bitsWithin 7 = .ok (.if_icmp .ge 32, 3) := by decide +kernel
theorem dX5_bitsWithin_10 : decode cX5_bitsWithin 10 = .ok (.iload_n 3, 1) := by decide +kernel
theorem dX5_bitsWithin_11 : decode cX5_bitsWithin 11 = .ok (.aload_n 1, 1) := by decide +kernel
theorem dX5_bitsWithin_12 : decode cX5_bitsWithin 12 = .ok (.arraylength, 1) := by decide +kernel
theorem dX5_bitsWithin_13 : decode cX5_bitsWithin 13 = .ok (.if_icmp .ge 26, 3) := by decide +kernel
theorem dX5_bitsWithin_16 : decode cX5_bitsWithin 16 = .ok (.aload_n 0, 1) := by decide +kernel
theorem dX5_bitsWithin_17 : decode cX5_bitsWithin 17 = .ok (.iload_n 3, 1) := by decide +kernel
theorem dX5_bitsWithin_18 : decode cX5_bitsWithin 18 = .ok (.invokevirtual 237, 3) := by decide +kernel
theorem dX5_bitsWithin_21 : decode cX5_bitsWithin 21 = .ok (.ifCond .eq 12, 3) := by decide +kernel
theorem dX5_bitsWithin_24 : decode cX5_bitsWithin 24 = .ok (.iload_n 2, 1) := by decide +kernel
theorem dX5_bitsWithin_25 : decode cX5_bitsWithin 25 = .ok (.aload_n 1, 1) := by decide +kernel
theorem dX5_bitsWithin_26 : decode cX5_bitsWithin 26 = .ok (.iload_n 3, 1) := by decide +kernel
theorem dX5_bitsWithin_27 : decode cX5_bitsWithin 27 = .ok (.iaload, 1) := by decide +kernel
theorem dX5_bitsWithin_28 : decode cX5_bitsWithin 28 = .ok (.invokestatic 92, 3) := by decide +kernel
theorem dX5_bitsWithin_31 : decode cX5_bitsWithin 31 = .ok (.iadd, 1) := by decide +kernel
theorem dX5_bitsWithin_32 : decode cX5_bitsWithin 32 = .ok (.istore_n 2, 1) := by decide +kernel
theorem dX5_bitsWithin_33 : decode cX5_bitsWithin 33 = .ok (.iinc 3 1, 3) := by decide +kernel
theorem dX5_bitsWithin_36 : decode cX5_bitsWithin 36 = .ok (.goto (-32), 3) := by decide +kernel
theorem dX5_bitsWithin_39 : decode cX5_bitsWithin 39 = .ok (.iload_n 2, 1) := by decide +kernel
theorem dX5_bitsWithin_40 : decode cX5_bitsWithin 40 = .ok (.ireturn, 1) := by decide +kernel
theorem dX5_pushWithout_0 : decode cX5_pushWithout 0 = .ok (.aload_n 0, 1) := by decide +kernel
theorem dX5_pushWithout_1 : decode cX5_pushWithout 1 = .ok (.getfield 16, 3) := by decide +kernel
theorem dX5_pushWithout_4 : decode cX5_pushWithout 4 = .ok (.aload_n 0, 1) := by decide +kernel
theorem dX5_pushWithout_5 : decode cX5_pushWithout 5 = .ok (.getfield 10, 3) := by decide +kernel
theorem dX5_pushWithout_8 : decode cX5_pushWithout 8 = .ok (.invokevirtual 204, 3) := by decide +kernel
theorem dX5_pushWithout_11 : decode cX5_pushWithout 11 = .ok (.iload_n 1, 1) := by decide +kernel
theorem dX5_pushWithout_12 : decode cX5_pushWithout 12 = .ok (.invokestatic 37, 3) := by decide +kernel
theorem dX5_pushWithout_15 : decode cX5_pushWithout 15 = .ok (.ifCond .ne 11, 3) := by decide +kernel
theorem dX5_pushWithout_18 : decode cX5_pushWithout 18 = .ok (.aload_n 0, 1) := by decide +kernel
theorem dX5_pushWithout_19 : decode cX5_pushWithout 19 = .ok (.getfield 16, 3) := by decide +kernel
theorem dX5_pushWithout_22 : decode cX5_pushWithout 22 = .ok (.iload_n 1, 1) := by decide +kernel
theorem dX5_pushWithout_23 : decode cX5_pushWithout 23 = .ok (.invokevirtual 67, 3) := by decide +kernel
theorem dX5_pushWithout_26 : decode cX5_pushWithout 26 = .ok (.iconst 0, 1) := by decide +kernel
theorem dX5_pushWithout_27 : decode cX5_pushWithout 27 = .ok (.istore 4, 2) := by decide +kernel
theorem dX5_pushWithout_29 : decode cX5_pushWithout 29 = .ok (.iload 4, 2) := by decide +kernel
theorem dX5_pushWithout_31 : decode cX5_pushWithout 31 = .ok (.iload_n 3, 1) := by decide +kernel
theorem dX5_pushWithout_32 : decode cX5_pushWithout 32 = .ok (.if_icmp .ge 16, 3) := by decide +kernel
theorem dX5_pushWithout_35 : decode cX5_pushWithout 35 = .ok (.aload_n 0, 1) := by decide +kernel
theorem dX5_pushWithout_36 : decode cX5_pushWithout 36 = .ok (.getfield 16, 3) := by decide +kernel
theorem dX5_pushWithout_39 : decode cX5_pushWithout 39 = .ok (.invokevirtual 119, 3) := by decide +kernel
theorem dX5_pushWithout_42 : decode cX5_pushWithout 42 = .ok (.iinc 4 1, 3) := by decide +kernel
theorem dX5_pushWithout_45 : decode cX5_pushWithout 45 = .ok (.goto (-16), 3) := by decide +kernel
theorem dX5_pushWithout_48 : decode cX5_pushWithout 48 = .ok (.iload_n 2, 1) := by decide +kernel
theorem dX5_pushWithout_49 : decode cX5_pushWithout 49 = .ok (.invokestatic 41, 3) := by decide +kernel
theorem dX5_pushWithout_52 : decode cX5_pushWithout 52 = .ok (.ifCond .eq 7, 3) := by decide +kernel
theorem dX5_pushWithout_55 : decode cX5_pushWithout 55 = .ok (.iconst 0, 1) := by decide +kernel
theorem dX5_pushWithout_56 : decode cX5_pushWithout 56 = .ok (.goto 22, 3) := by decide +kernel
theorem dX5_pushWithout_59 : decode cX5_pushWithout 59 = .ok (.aload_n 0, 1) := by decide +kernel
theorem dX5_pushWithout_60 : decode cX5_pushWithout 60 = .ok (.getfield 16, 3) := by decide +kernel
theorem dX5_pushWithout_63 : decode cX5_pushWithout 63 = .ok (.getfield 142, 3) := by decide +kernel
theorem dX5_pushWithout_66 : decode cX5_pushWithout 66 = .ok (.iload_n 2, 1) := by decide +kernel
theorem dX5_pushWithout_67 : decode cX5_pushWithout 67 = .ok (.iaload, 1) := by decide +kernel
theorem dX5_pushWithout_68 : decode cX5_pushWithout 68 = .ok (.aload_n 0, 1) := by decide +kernel
theorem dX5_pushWithout_69 : decode cX5_pushWithout 69 = .ok (.getfield 10, 3) := by decide +kernel
theorem dX5_pushWithout_72 : decode cX5_pushWithout 72 = .ok (.getfield 142, 3) := by decide +kernel
theorem dX5_pushWithout_75 : decode cX5_pushWithout 75 = .ok (.iload_n 2, 1) := by decide +kernel
theorem dX5_pushWithout_76 : decode cX5_pushWithout 76 = .ok (.iaload, 1) := by decide +kernel
theorem dX5_pushWithout_77 : decode cX5_pushWithout 77 = .ok (.isub, 1) := by decide +kernel
theorem dX5_pushWithout_78 : decode cX5_pushWithout 78 = .ok (.ireturn, 1) := by decide +kernel
theorem dX6_init_0 : decode cX6_init 0 = .ok (.aload_n 0, 1) := by decide +kernel
theorem dX6_init_1 : decode cX6_init 1 = .ok (.invokespecial 1, 3) := by decide +kernel
theorem dX6_init_4 : decode cX6_init 4 = .ok (.aload_n 0, 1) := by decide +kernel
theorem dX6_init_5 : decode cX6_init 5 = .ok (.bipush 96, 2) := by decide +kernel
theorem dX6_init_7 : decode cX6_init 7 = .ok (.newarray .int, 2) := by decide +kernel
theorem dX6_init_9 : decode cX6_init 9 = .ok (.putfield 7, 3) := by decide +kernel
theorem dX6_init_12 : decode cX6_init 12 = .ok (.aload_n 0, 1) := by decide +kernel
theorem dX6_init_13 : decode cX6_init 13 = .ok (.bipush 96, 2) := by decide +kernel
theorem dX6_init_15 : decode cX6_init 15 = .ok (.newarray .int, 2) := by decide +kernel
theorem dX6_init_17 : decode cX6_init 17 = .ok (.putfield 13, 3) := by decide +kernel
theorem dX6_init_20 : decode cX6_init 20 = .ok (.aload_n 0, 1) := by decide +kernel
theorem dX6_init_21 : decode cX6_init 21 = .ok (.bipush 96, 2) := by decide +kernel
theorem dX6_init_23 : decode cX6_init 23 = .ok (.newarray .int, 2) := by decide +kernel
theorem dX6_init_25 : decode cX6_init 25 = .ok (.putfield 16, 3) := by decide +kernel
theorem dX6_init_28 : decode cX6_init 28 = .ok (.aload_n 0, 1) := by decide +kernel
theorem dX6_init_29 : decode cX6_init 29 = .ok (.bipush 96, 2) := by decide +kernel
theorem dX6_init_31 : decode cX6_init 31 = .ok (.newarray .int, 2) := by decide +kernel
theorem dX6_init_33 : decode cX6_init 33 = .ok (.putfield 19, 3) := by decide +kernel
theorem dX6_init_36 : decode cX6_init 36 = .ok (.aload_n 0, 1) := by decide +kernel
theorem dX6_init_37 : decode cX6_init 37 = .ok (.bipush 96, 2) := by decide +kernel
theorem dX6_init_39 : decode cX6_init 39 = .ok (.newarray .int, 2) := by decide +kernel
theorem dX6_init_41 : decode cX6_init 41 = .ok (.putfield 22, 3) := by decide +kernel
theorem dX6_init_44 : decode cX6_init 44 = .ok (.aload_n 0, 1) := by decide +kernel
theorem dX6_init_45 : decode cX6_init 45 = .ok (.bipush 96, 2) := by decide +kernel
theorem dX6_init_47 : decode cX6_init 47 = .ok (.newarray .int, 2) := by decide +kernel
theorem dX6_init_49 : decode cX6_init 49 = .ok (.putfield 25, 3) := by decide +kernel
theorem dX6_init_52 : decode cX6_init 52 = .ok (.aload_n 0, 1) := by decide +kernel
theorem dX6_init_53 : decode cX6_init 53 = .ok (.bipush 96, 2) := by decide +kernel
theorem dX6_init_55 : decode cX6_init 55 = .ok (.newarray .int, 2) := by decide +kernel
theorem dX6_init_57 : decode cX6_init 57 = .ok (.putfield 28, 3) := by decide +kernel
theorem dX6_init_60 : decode cX6_init 60 = .ok (.aload_n 0, 1) := by decide +kernel
theorem dX6_init_61 : decode cX6_init 61 = .ok (.bipush 96, 2) := by decide +kernel
theorem dX6_init_63 : decode cX6_init 63 = .ok (.newarray .int, 2) := by decide +kernel
theorem dX6_init_65 : decode cX6_init 65 = .ok (.putfield 31, 3) := by decide +kernel
theorem dX6_init_68 : decode cX6_init 68 = .ok (.aload_n 0, 1) := by decide +kernel
theorem dX6_init_69 : decode cX6_init 69 = .ok (.sipush 384, 3) := by decide +kernel
theorem dX6_init_72 : decode cX6_init 72 = .ok (.newarray .int, 2) := by decide +kernel
theorem dX6_init_74 : decode cX6_init 74 = .ok (.putfield 34, 3) := by decide +kernel
theorem dX6_init_77 : decode cX6_init 77 = .ok (.aload_n 0, 1) := by decide +kernel
theorem dX6_init_78 : decode cX6_init 78 = .ok (.sipush 384, 3) := by decide +kernel
theorem dX6_init_81 : decode cX6_init 81 = .ok (.newarray .int, 2) := by decide +kernel
theorem dX6_init_83 : decode cX6_init 83 = .ok (.putfield 37, 3) := by decide +kernel
theorem dX6_init_86 : decode cX6_init 86 = .ok (.aload_n 0, 1) := by decide +kernel
theorem dX6_init_87 : decode cX6_init 87 = .ok (.bipush 12, 2) := by decide +kernel
theorem dX6_init_89 : decode cX6_init 89 = .ok (.newarray .int, 2) := by decide +kernel
theorem dX6_init_91 : decode cX6_init 91 = .ok (.putfield 40, 3) := by decide +kernel
theorem dX6_init_94 : decode cX6_init 94 = .ok (.aload_n 0, 1) := by decide +kernel
theorem dX6_init_95 : decode cX6_init 95 = .ok (.iconst 4, 1) := by decide +kernel
theorem dX6_init_96 : decode cX6_init 96 = .ok (.newarray .int, 2) := by decide +kernel
theorem dX6_init_98 : decode cX6_init 98 = .ok (.putfield 43, 3) := by decide +kernel
theorem dX6_init_101 : decode cX6_init 101 = .ok (.aload_n 0, 1) := by decide +kernel
theorem dX6_init_102 : decode cX6_init 102 = .ok (.bipush 12, 2) := by decide +kernel
theorem dX6_init_104 : decode cX6_init 104 = .ok (.newarray .int, 2) := by decide +kernel
theorem dX6_init_106 : decode cX6_init 106 = .ok (.putfield 46, 3) := by decide +kernel
theorem dX6_init_109 : decode cX6_init 109 = .ok (.aload_n 0, 1) := by decide +kernel
theorem dX6_init_110 : decode cX6_init 110 = .ok (.iconst 4, 1) := by decide +kernel
theorem dX6_init_111 : decode cX6_init 111 = .ok (.newarray .int, 2) := by decide +kernel
theorem dX6_init_113 : decode cX6_init 113 = .ok (.putfield 49, 3) := by decide +kernel
theorem dX6_init_116 : decode cX6_init 116 = .ok (.aload_n 0, 1) := by decide +kernel
theorem dX6_init_117 : decode cX6_init 117 = .ok (.iconst 4, 1) := by decide +kernel
theorem dX6_init_118 : decode cX6_init 118 = .ok (.newarray .int, 2) := by decide +kernel
theorem dX6_init_120 : decode cX6_init 120 = .ok (.putfield 52, 3) := by decide +kernel
theorem dX6_init_123 : decode cX6_init 123 = .ok (.aload_n 0, 1) := by decide +kernel
theorem dX6_init_124 : decode cX6_init 124 = .ok (.sipush 20000, 3) := by decide +kernel
theorem dX6_init_127 : decode cX6_init 127 = .ok (.newarray .int, 2) := by decide +kernel
theorem dX6_init_129 : decode cX6_init 129 = .ok (.putfield 55, 3) := by decide +kernel
theorem dX6_init_132 : decode cX6_init 132 = .ok (.iconst 0, 1) := by decide +kernel
theorem dX6_init_133 : decode cX6_init 133 = .ok (.istore_n 1, 1) := by decide +kernel
theorem dX6_init_134 : decode cX6_init 134 = .ok (.iload_n 1, 1) := by decide +kernel
theorem dX6_init_135 : decode cX6_init 135 = .ok (.bipush 96, 2) := by decide +kernel
theorem dX6_init_137 : decode cX6_init 137 = .ok (.if_icmp .ge 16, 3) := by decide +kernel
theorem dX6_init_140 : decode cX6_init 140 = .ok (.aload_n 0, 1) := by decide +kernel
theorem dX6_init_141 : decode cX6_init 141 = .ok (.getfield 13, 3) := by decide +kernel
theorem dX6_init_144 : decode cX6_init 144 = .ok (.iload_n 1, 1) := by decide +kernel
theorem dX6_init_145 : decode cX6_init 145 = .ok (.iconst (-1), 1) := by decide +kernel
theorem dX6_init_146 : decode cX6_init 146 = .ok (.iastore, 1) := by decide +kernel
theorem dX6_init_147 : decode cX6_init 147 = .ok (.iinc 1 1, 3) := by decide +kernel
theorem dX6_init_150 : decode cX6_init 150 = .ok (.goto (-16), 3) := by decide +kernel
theorem dX6_init_153 : decode cX6_init 153 = .ok (.return_, 1) := by decide +kernel
theorem dX6_thrown_0 : decode cX6_thrown 0 = .ok (.aload_n 0, 1) := by decide +kernel
theorem dX6_thrown_1 : decode cX6_thrown 1 = .ok (.getfield 58, 3) := by decide +kernel
theorem dX6_thrown_4 : decode cX6_thrown 4 = .ok (.ireturn, 1) := by decide +kernel
theorem dX6_refused_0 : decode cX6_refused 0 = .ok (.aload_n 0, 1) := by decide +kernel
theorem dX6_refused_1 : decode cX6_refused 1 = .ok (.iload_n 1, 1) := by decide +kernel
theorem dX6_refused_2 : decode cX6_refused 2 = .ok (.putfield 58, 3) := by decide +kernel
theorem dX6_refused_5 : decode cX6_refused 5 = .ok (.iload_n 1, 1) := by decide +kernel
theorem dX6_refused_6 : decode cX6_refused 6 = .ok (.ifCond .eq 7, 3) := by decide +kernel
theorem dX6_refused_9 : decode cX6_refused 9 = .ok (.iconst 1, 1) := by decide +kernel
theorem dX6_refused_10 : decode cX6_refused 10 = .ok (.goto 4, 3) := by decide +kernel
theorem dX6_refused_13 : decode cX6_refused 13 = .ok (.iconst 0, 1) := by decide +kernel
theorem dX6_refused_14 : decode cX6_refused 14 = .ok (.ireturn, 1) := by decide +kernel
theorem dX6_within_0 : decode cX6_within 0 = .ok (.iload_n 0, 1) := by decide +kernel
theorem dX6_within_1 : decode cX6_within 1 = .ok (.iload_n 1, 1) := by decide +kernel
theorem dX6_within_2 : decode cX6_within 2 = .ok (.if_icmp .lt 12, 3) := by decide +kernel
theorem dX6_within_5 : decode cX6_within 5 = .ok (.iload_n 0, 1) := by decide +kernel
theorem dX6_within_6 : decode cX6_within 6 = .ok (.iload_n 2, 1) := by decide +kernel
theorem dX6_within_7 : decode cX6_within 7 = .ok (.if_icmp .gt 7, 3) := by decide +kernel
theorem dX6_within_10 : decode cX6_within 10 = .ok (.iconst 1, 1) := by decide +kernel
theorem dX6_within_11 : decode cX6_within 11 = .ok (.goto 4, 3) := by decide +kernel
theorem dX6_within_14 : decode cX6_within 14 = .ok (.iconst 0, 1) := by decide +kernel
theorem dX6_within_15 : decode cX6_within 15 = .ok (.ireturn, 1) := by decide +kernel
theorem dX6_isCell_0 : decode cX6_isCell 0 = .ok (.iload_n 1, 1) := by decide +kernel
theorem dX6_isCell_1 : decode cX6_isCell 1 = .ok (.iconst 0, 1) := by decide +kernel
theorem dX6_isCell_2 : decode cX6_isCell 2 = .ok (.bipush 95, 2) := by decide +kernel
theorem dX6_isCell_4 : decode cX6_isCell 4 = .ok (.invokestatic 62, 3) := by decide +kernel
theorem dX6_isCell_7 : decode cX6_isCell 7 = .ok (.ireturn, 1) := by decide +kernel
theorem dX6_beside_0 : decode cX6_beside 0 = .ok (.iload_n 0, 1) := by decide +kernel
theorem dX6_beside_1 : decode cX6_beside 1 = .ok (.bipush 12, 2) := by decide +kernel
theorem dX6_beside_3 : decode cX6_beside 3 = .ok (.idiv, 1) := by decide +kernel
theorem dX6_beside_4 : decode cX6_beside 4 = .ok (.istore_n 2, 1) := by decide +kernel
theorem dX6_beside_5 : decode cX6_beside 5 = .ok (.iload_n 1, 1) := by decide +kernel
theorem dX6_beside_6 : decode cX6_beside 6 = .ok (.ifCond .ne 20, 3) := by decide +kernel
theorem dX6_beside_9 : decode cX6_beside 9 = .ok (.bipush 12, 2) := by decide +kernel
theorem dX6_beside_11 : decode cX6_beside 11 = .ok (.iload_n 2, 1) := by decide +kernel
theorem dX6_beside_12 : decode cX6_beside 12 = .ok (.imul, 1) := by decide +kernel
theorem dX6_beside_13 : decode cX6_beside 13 = .ok (.iload_n 0, 1) := by decide +kernel
theorem dX6_beside_14 : decode cX6_beside 14 = .ok (.iconst 1, 1) := by decide +kernel
theorem dX6_beside_15 : decode cX6_beside 15 = .ok (.iadd, 1) := by decide +kernel
theorem dX6_beside_16 : decode cX6_beside 16 = .ok (.bipush 12, 2) := by decide +kernel
theorem dX6_beside_18 : decode cX6_beside 18 = .ok (.iload_n 2, 1) := by decide +kernel
theorem dX6_beside_19 : decode cX6_beside 19 = .ok (.imul, 1) := by decide +kernel
theorem dX6_beside_20 : decode cX6_beside 20 = .ok (.isub, 1) := by decide +kernel
theorem dX6_beside_21 : decode cX6_beside 21 = .ok (.bipush 12, 2) := by decide +kernel
theorem dX6_beside_23 : decode cX6_beside 23 = .ok (.irem, 1) := by decide +kernel
theorem dX6_beside_24 : decode cX6_beside 24 = .ok (.iadd, 1) := by decide +kernel
theorem dX6_beside_25 : decode cX6_beside 25 = .ok (.ireturn, 1) := by decide +kernel
theorem dX6_beside_26 : decode cX6_beside 26 = .ok (.iload_n 1, 1) := by decide +kernel
theorem dX6_beside_27 : decode cX6_beside 27 = .ok (.iconst 2, 1) := by decide +kernel
theorem dX6_beside_28 : decode cX6_beside 28 = .ok (.if_icmp .ne 21, 3) := by decide +kernel
theorem dX6_beside_31 : decode cX6_beside 31 = .ok (.bipush 12, 2) := by decide +kernel
theorem dX6_beside_33 : decode cX6_beside 33 = .ok (.iload_n 2, 1) := by decide +kernel
theorem dX6_beside_34 : decode cX6_beside 34 = .ok (.imul, 1) := by decide +kernel
theorem dX6_beside_35 : decode cX6_beside 35 = .ok (.iload_n 0, 1) := by decide +kernel
theorem dX6_beside_36 : decode cX6_beside 36 = .ok (.bipush 11, 2) := by decide +kernel
theorem dX6_beside_38 : decode cX6_beside 38 = .ok (.iadd, 1) := by decide +kernel
theorem dX6_beside_39 : decode cX6_beside 39 = .ok (.bipush 12, 2) := by decide +kernel
theorem dX6_beside_41 : decode cX6_beside 41 = .ok (.iload_n 2, 1) := by decide +kernel
theorem dX6_beside_42 : decode cX6_beside 42 = .ok (.imul, 1) := by decide +kernel
theorem dX6_beside_43 : decode cX6_beside 43 = .ok (.isub, 1) := by decide +kernel
theorem dX6_beside_44 : decode cX6_beside 44 = .ok (.bipush 12, 2) := by decide +kernel
theorem dX6_beside_46 : decode cX6_beside 46 = .ok (.irem, 1) := by decide +kernel
theorem dX6_beside_47 : decode cX6_beside 47 = .ok (.iadd, 1) := by decide +kernel
theorem dX6_beside_48 : decode cX6_beside 48 = .ok (.ireturn, 1) := by decide +kernel
theorem dX6_beside_49 : decode cX6_beside 49 = .ok (.iload_n 1, 1) := by decide +kernel
theorem dX6_beside_50 : decode cX6_beside 50 = .ok (.iconst 1, 1) := by decide +kernel
theorem dX6_beside_51 : decode cX6_beside 51 = .ok (.if_icmp .ne 18, 3) := by decide +kernel
theorem dX6_beside_54 : decode cX6_beside 54 = .ok (.iload_n 2, 1) := by decide +kernel
theorem dX6_beside_55 : decode cX6_beside 55 = .ok (.ifCond .ne 7, 3) := by decide +kernel
theorem dX6_beside_58 : decode cX6_beside 58 = .ok (.iconst (-1), 1) := by decide +kernel
theorem dX6_beside_59 : decode cX6_beside 59 = .ok (.goto 24, 3) := by decide +kernel
theorem dX6_beside_62 : decode cX6_beside 62 = .ok (.iload_n 0, 1) := by decide +kernel
theorem dX6_beside_63 : decode cX6_beside 63 = .ok (.bipush 12, 2) := by decide +kernel
theorem dX6_beside_65 : decode cX6_beside 65 = .ok (.isub, 1) := by decide +kernel
theorem dX6_beside_66 : decode cX6_beside 66 = .ok (.goto 17, 3) := by decide +kernel
theorem dX6_beside_69 : decode cX6_beside 69 = .ok (.iload_n 2, 1) := by decide +kernel
theorem dX6_beside_70 : decode cX6_beside 70 = .ok (.bipush 7, 2) := by decide +kernel
theorem dX6_beside_72 : decode cX6_beside 72 = .ok (.if_icmp .ne 7, 3) := by decide +kernel
theorem dX6_beside_75 : decode cX6_beside 75 = .ok (.iconst (-1), 1) := by decide +kernel
theorem dX6_beside_76 : decode cX6_beside 76 = .ok (.goto 7, 3) := by decide +kernel
theorem dX6_beside_79 : decode cX6_beside 79 = .ok (.iload_n 0, 1) := by decide +kernel
theorem dX6_beside_80 : decode cX6_beside 80 = .ok (.bipush 12, 2) := by decide +kernel
theorem dX6_beside_82 : decode cX6_beside 82 = .ok (.iadd, 1) := by decide +kernel
theorem dX6_beside_83 : decode cX6_beside 83 = .ok (.ireturn, 1) := by decide +kernel
theorem dX6_blocks_0 : decode cX6_blocks 0 = .ok (.iload_n 1, 1) := by decide +kernel
theorem dX6_blocks_1 : decode cX6_blocks 1 = .ok (.iconst (-1), 1) := by decide +kernel
theorem dX6_blocks_2 : decode cX6_blocks 2 = .ok (.if_icmp .eq 13, 3) := by decide +kernel
theorem dX6_blocks_5 : decode cX6_blocks 5 = .ok (.aload_n 0, 1) := by decide +kernel
theorem dX6_blocks_6 : decode cX6_blocks 6 = .ok (.getfield 7, 3) := by decide +kernel
theorem dX6_blocks_9 : decode cX6_blocks 9 = .ok (.iload_n 1, 1) := by decide +kernel
theorem dX6_blocks_10 : decode cX6_blocks 10 = .ok (.iaload, 1) := by decide +kernel
theorem dX6_blocks_11 : decode cX6_blocks 11 = .ok (.iconst 1, 1) := by decide +kernel
theorem dX6_blocks_12 : decode cX6_blocks 12 = .ok (.if_icmp .ne 7, 3) := by decide +kernel
theorem dX6_blocks_15 : decode cX6_blocks 15 = .ok (.iconst 1, 1) := by decide +kernel
theorem dX6_blocks_16 : decode cX6_blocks 16 = .ok (.goto 4, 3) := by decide +kernel
theorem dX6_blocks_19 : decode cX6_blocks 19 = .ok (.iconst 0, 1) := by decide +kernel
theorem dX6_blocks_20 : decode cX6_blocks 20 = .ok (.ireturn, 1) := by decide +kernel
theorem dX6_many_0 : decode cX6_many 0 = .ok (.iload_n 0, 1) := by decide +kernel
theorem dX6_many_1 : decode cX6_many 1 = .ok (.iconst 1, 1) := by decide +kernel
theorem dX6_many_2 : decode cX6_many 2 = .ok (.iand, 1) := by decide +kernel
theorem dX6_many_3 : decode cX6_many 3 = .ok (.iload_n 0, 1) := by decide +kernel
theorem dX6_many_4 : decode cX6_many 4 = .ok (.iconst 1, 1) := by decide +kernel
theorem dX6_many_5 : decode cX6_many 5 = .ok (.ishr, 1) := by decide +kernel
theorem dX6_many_6 : decode cX6_many 6 = .ok (.iconst 1, 1) := by decide +kernel
theorem dX6_many_7 : decode cX6_many 7 = .ok (.iand, 1) := by decide +kernel
theorem dX6_many_8 : decode cX6_many 8 = .ok (.iadd, 1) := by decide +kernel
theorem dX6_many_9 : decode cX6_many 9 = .ok (.iload_n 0, 1) := by decide +kernel
theorem dX6_many_10 : decode cX6_many 10 = .ok (.iconst 2, 1) := by decide +kernel
theorem dX6_many_11 : decode cX6_many 11 = .ok (.ishr, 1) := by decide +kernel
theorem dX6_many_12 : decode cX6_many 12 = .ok (.iconst 1, 1) := by decide +kernel
theorem dX6_many_13 : decode cX6_many 13 = .ok (.iand, 1) := by decide +kernel
theorem dX6_many_14 : decode cX6_many 14 = .ok (.iadd, 1) := by decide +kernel
theorem dX6_many_15 : decode cX6_many 15 = .ok (.iload_n 0, 1) := by decide +kernel
theorem dX6_many_16 : decode cX6_many 16 = .ok (.iconst 3, 1) := by decide +kernel
theorem dX6_many_17 : decode cX6_many 17 = .ok (.ishr, 1) := by decide +kernel
theorem dX6_many_18 : decode cX6_many 18 = .ok (.iconst 1, 1) := by decide +kernel
theorem dX6_many_19 : decode cX6_many 19 = .ok (.iand, 1) := by decide +kernel
theorem dX6_many_20 : decode cX6_many 20 = .ok (.iadd, 1) := by decide +kernel
theorem dX6_many_21 : decode cX6_many 21 = .ok (.ireturn, 1) := by decide +kernel
theorem dX6_opposite_0 : decode cX6_opposite 0 = .ok (.iload_n 0, 1) := by decide +kernel
theorem dX6_opposite_1 : decode cX6_opposite 1 = .ok (.iconst 2, 1) := by decide +kernel
theorem dX6_opposite_2 : decode cX6_opposite 2 = .ok (.iadd, 1) := by decide +kernel
theorem dX6_opposite_3 : decode cX6_opposite 3 = .ok (.iconst 4, 1) := by decide +kernel
theorem dX6_opposite_4 : decode cX6_opposite 4 = .ok (.irem, 1) := by decide +kernel
theorem dX6_opposite_5 : decode cX6_opposite 5 = .ok (.ireturn, 1) := by decide +kernel
theorem dX6_cellsOf_0 : decode cX6_cellsOf 0 = .ok (.iconst 0, 1) := by decide +kernel
theorem dX6_cellsOf_1 : decode cX6_cellsOf 1 = .ok (.istore_n 2, 1) := by decide +kernel
theorem dX6_cellsOf_2 : decode cX6_cellsOf 2 = .ok (.iconst 0, 1) := by decide +kernel
theorem dX6_cellsOf_3 : decode cX6_cellsOf 3 = .ok (.istore_n 3, 1) := by decide +kernel
theorem dX6_cellsOf_4 : decode cX6_cellsOf 4 = .ok (.iload_n 3, 1) := by decide +kernel
theorem dX6_cellsOf_5 : decode cX6_cellsOf 5 = .ok (.bipush 96, 2) := by decide +kernel
theorem dX6_cellsOf_7 : decode cX6_cellsOf 7 = .ok (.if_icmp .ge 27, 3) := by decide +kernel
theorem dX6_cellsOf_10 : decode cX6_cellsOf 10 = .ok (.iload_n 2, 1) := by decide +kernel
theorem dX6_cellsOf_11 : decode cX6_cellsOf 11 = .ok (.aload_n 0, 1) := by decide +kernel
theorem dX6_cellsOf_12 : decode cX6_cellsOf 12 = .ok (.getfield 13, 3) := by decide +kernel
theorem dX6_cellsOf_15 : decode cX6_cellsOf 15 = .ok (.iload_n 3, 1) := by decide +kernel
theorem dX6_cellsOf_16 : decode cX6_cellsOf 16 = .ok (.iaload, 1) := by decide +kernel
theorem dX6_cellsOf_17 : decode cX6_cellsOf 17 = .ok (.iload_n 1, 1) := by decide +kernel
theorem dX6_cellsOf_18 : decode cX6_cellsOf 18 = .ok (.if_icmp .ne 7, 3) := by decide +kernel
theorem dX6_cellsOf_21 : decode cX6_cellsOf 21 = .ok (.iconst 1, 1) := by decide +kernel
theorem dX6_cellsOf_22 : decode cX6_cellsOf 22 = .ok (.goto 4, 3) := by decide +kernel
theorem dX6_cellsOf_25 : decode cX6_cellsOf 25 = .ok (.iconst 0, 1) := by decide +kernel
theorem dX6_cellsOf_26 : decode cX6_cellsOf 26 = .ok (.iadd, 1) := by decide +kernel
theorem dX6_cellsOf_27 : decode cX6_cellsOf 27 = .ok (.istore_n 2, 1) := by decide +kernel
theorem dX6_cellsOf_28 : decode cX6_cellsOf 28 = .ok (.iinc 3 1, 3) := by decide +kernel
theorem dX6_cellsOf_31 : decode cX6_cellsOf 31 = .ok (.goto (-27), 3) := by decide +kernel
theorem dX6_cellsOf_34 : decode cX6_cellsOf 34 = .ok (.iload_n 2, 1) := by decide +kernel
theorem dX6_cellsOf_35 : decode cX6_cellsOf 35 = .ok (.ireturn, 1) := by decide +kernel
theorem dX6_hasProbe_0 : decode cX6_hasProbe 0 = .ok (.iconst 0, 1) := by decide +kernel
theorem dX6_hasProbe_1 : decode cX6_hasProbe 1 = .ok (.istore_n 2, 1) := by decide +kernel
theorem dX6_hasProbe_2 : decode cX6_hasProbe 2 = .ok (.iconst 0, 1) := by decide +kernel
theorem dX6_hasProbe_3 : decode cX6_hasProbe 3 = .ok (.istore_n 3, 1) := by decide +kernel
theorem dX6_hasProbe_4 : decode cX6_hasProbe 4 = .ok (.iload_n 3, 1) := by decide +kernel
theorem dX6_hasProbe_5 : decode cX6_hasProbe 5 = .ok (.aload_n 0, 1) := by decide +kernel
theorem dX6_hasProbe_6 : decode cX6_hasProbe 6 = .ok (.getfield 66, 3) := by decide +kernel
theorem dX6_hasProbe_9 : decode cX6_hasProbe 9 = .ok (.if_icmp .ge 29, 3) := by decide +kernel
theorem dX6_hasProbe_12 : decode cX6_hasProbe 12 = .ok (.iload_n 2, 1) := by decide +kernel
theorem dX6_hasProbe_13 : decode cX6_hasProbe 13 = .ok (.ifCond .ne 13, 3) := by decide +kernel
theorem dX6_hasProbe_16 : decode cX6_hasProbe 16 = .ok (.aload_n 0, 1) := by decide +kernel
theorem dX6_hasProbe_17 : decode cX6_hasProbe 17 = .ok (.getfield 49, 3) := by decide +kernel
theorem dX6_hasProbe_20 : decode cX6_hasProbe 20 = .ok (.iload_n 3, 1) := by decide +kernel
theorem dX6_hasProbe_21 : decode cX6_hasProbe 21 = .ok (.iaload, 1) := by decide +kernel
theorem dX6_hasProbe_22 : decode cX6_hasProbe 22 = .ok (.iload_n 1, 1) := by decide +kernel
theorem dX6_hasProbe_23 : decode cX6_hasProbe 23 = .ok (.if_icmp .ne 7, 3) := by decide +kernel
theorem dX6_hasProbe_26 : decode cX6_hasProbe 26 = .ok (.iconst 1, 1) := by decide +kernel
theorem dX6_hasProbe_27 : decode cX6_hasProbe 27 = .ok (.goto 4, 3) := by decide +kernel
theorem dX6_hasProbe_30 : decode cX6_hasProbe 30 = .ok (.iconst 0, 1) := by decide +kernel
theorem dX6_hasProbe_31 : decode cX6_hasProbe 31 = .ok (.istore_n 2, 1) := by decide +kernel
theorem dX6_hasProbe_32 : decode cX6_hasProbe 32 = .ok (.iinc 3 1, 3) := by decide +kernel
theorem dX6_hasProbe_35 : decode cX6_hasProbe 35 = .ok (.goto (-31), 3) := by decide +kernel
theorem dX6_hasProbe_38 : decode cX6_hasProbe 38 = .ok (.iload_n 2, 1) := by decide +kernel
theorem dX6_hasProbe_39 : decode cX6_hasProbe 39 = .ok (.ireturn, 1) := by decide +kernel
theorem dX6_canBeWall_0 : decode cX6_canBeWall 0 = .ok (.aload_n 0, 1) := by decide +kernel
theorem dX6_canBeWall_1 : decode cX6_canBeWall 1 = .ok (.getfield 16, 3) := by decide +kernel
theorem dX6_canBeWall_4 : decode cX6_canBeWall 4 = .ok (.iload_n 1, 1) := by decide +kernel
theorem dX6_canBeWall_5 : decode cX6_canBeWall 5 = .ok (.iaload, 1) := by decide +kernel
theorem dX6_canBeWall_6 : decode cX6_canBeWall 6 = .ok (.ifCond .ne 7, 3) := by decide +kernel
theorem dX6_canBeWall_9 : decode cX6_canBeWall 9 = .ok (.iconst 1, 1) := by decide +kernel
theorem dX6_canBeWall_10 : decode cX6_canBeWall 10 = .ok (.goto 4, 3) := by decide +kernel
theorem dX6_canBeWall_13 : decode cX6_canBeWall 13 = .ok (.iconst 0, 1) := by decide +kernel
theorem dX6_canBeWall_14 : decode cX6_canBeWall 14 = .ok (.istore_n 3, 1) := by decide +kernel
theorem dX6_canBeWall_15 : decode cX6_canBeWall 15 = .ok (.iconst 0, 1) := by decide +kernel
theorem dX6_canBeWall_16 : decode cX6_canBeWall 16 = .ok (.istore 4, 2) := by decide +kernel
theorem dX6_canBeWall_18 : decode cX6_canBeWall 18 = .ok (.iload 4, 2) := by decide +kernel
theorem dX6_canBeWall_20 : decode cX6_canBeWall 20 = .ok (.iconst 4, 1) := by decide +kernel
theorem dX6_canBeWall_21 : decode cX6_canBeWall 21 = .ok (.if_icmp .ge 33, 3) := by decide +kernel
theorem dX6_canBeWall_24 : decode cX6_canBeWall 24 = .ok (.iload_n 3, 1) := by decide +kernel
theorem dX6_canBeWall_25 : decode cX6_canBeWall 25 = .ok (.ifCond .eq 21, 3) := by decide +kernel
theorem dX6_canBeWall_28 : decode cX6_canBeWall 28 = .ok (.aload_n 0, 1) := by decide +kernel
theorem dX6_canBeWall_29 : decode cX6_canBeWall 29 = .ok (.getfield 34, 3) := by decide +kernel
theorem dX6_canBeWall_32 : decode cX6_canBeWall 32 = .ok (.iconst 4, 1) := by decide +kernel
theorem dX6_canBeWall_33 : decode cX6_canBeWall 33 = .ok (.iload_n 1, 1) := by decide +kernel
theorem dX6_canBeWall_34 : decode cX6_canBeWall 34 = .ok (.imul, 1) := by decide +kernel
theorem dX6_canBeWall_35 : decode cX6_canBeWall 35 = .ok (.iload 4, 2) := by decide +kernel
theorem dX6_canBeWall_37 : decode cX6_canBeWall 37 = .ok (.iadd, 1) := by decide +kernel
theorem dX6_canBeWall_38 : decode cX6_canBeWall 38 = .ok (.iaload, 1) := by decide +kernel
theorem dX6_canBeWall_39 : decode cX6_canBeWall 39 = .ok (.ifCond .ne 7, 3) := by decide +kernel
theorem dX6_canBeWall_42 : decode cX6_canBeWall 42 = .ok (.iconst 1, 1) := by decide +kernel
theorem dX6_canBeWall_43 : decode cX6_canBeWall 43 = .ok (.goto 4, 3) := by decide +kernel
theorem dX6_canBeWall_46 : decode cX6_canBeWall 46 = .ok (.iconst 0, 1) := by decide +kernel
theorem dX6_canBeWall_47 : decode cX6_canBeWall 47 = .ok (.istore_n 3, 1) := by decide +kernel
theorem dX6_canBeWall_48 : decode cX6_canBeWall 48 = .ok (.iinc 4 1, 3) := by decide +kernel
theorem dX6_canBeWall_51 : decode cX6_canBeWall 51 = .ok (.goto (-33), 3) := by decide +kernel
theorem dX6_canBeWall_54 : decode cX6_canBeWall 54 = .ok (.aload_n 0, 1) := by decide +kernel
theorem dX6_canBeWall_55 : decode cX6_canBeWall 55 = .ok (.getfield 7, 3) := by decide +kernel
theorem dX6_canBeWall_58 : decode cX6_canBeWall 58 = .ok (.iload_n 1, 1) := by decide +kernel
theorem dX6_canBeWall_59 : decode cX6_canBeWall 59 = .ok (.iaload, 1) := by decide +kernel
theorem dX6_canBeWall_60 : decode cX6_canBeWall 60 = .ok (.ifCond .ne 34, 3) := by decide +kernel
theorem dX6_canBeWall_63 : decode cX6_canBeWall 63 = .ok (.iload_n 3, 1) := by decide +kernel
theorem dX6_canBeWall_64 : decode cX6_canBeWall 64 = .ok (.ifCond .eq 30, 3) := by decide +kernel
theorem dX6_canBeWall_67 : decode cX6_canBeWall 67 = .ok (.aload_n 0, 1) := by decide +kernel
theorem dX6_canBeWall_68 : decode cX6_canBeWall 68 = .ok (.iload_n 1, 1) := by decide +kernel
theorem dX6_canBeWall_69 : decode cX6_canBeWall 69 = .ok (.invokevirtual 69, 3) := by decide +kernel
theorem dX6_canBeWall_72 : decode cX6_canBeWall 72 = .ok (.ifCond .ne 22, 3) := by decide +kernel
theorem dX6_canBeWall_75 : decode cX6_canBeWall 75 = .ok (.iload_n 2, 1) := by decide +kernel
theorem dX6_canBeWall_76 : decode cX6_canBeWall 76 = .ok (.iconst (-1), 1) := by decide +kernel
theorem dX6_canBeWall_77 : decode cX6_canBeWall 77 = .ok (.if_icmp .eq 13, 3) := by decide +kernel
theorem dX6_canBeWall_80 : decode cX6_canBeWall 80 = .ok (.aload_n 0, 1) := by decide +kernel
theorem dX6_canBeWall_81 : decode cX6_canBeWall 81 = .ok (.iload_n 2, 1) := by decide +kernel
theorem dX6_canBeWall_82 : decode cX6_canBeWall 82 = .ok (.invokevirtual 73, 3) := by decide +kernel
theorem dX6_canBeWall_85 : decode cX6_canBeWall 85 = .ok (.bipush 12, 2) := by decide +kernel
theorem dX6_canBeWall_87 : decode cX6_canBeWall 87 = .ok (.if_icmp .ge 7, 3) := by decide +kernel
theorem dX6_canBeWall_90 : decode cX6_canBeWall 90 = .ok (.iconst 1, 1) := by decide +kernel
theorem dX6_canBeWall_91 : decode cX6_canBeWall 91 = .ok (.goto 4, 3) := by decide +kernel
theorem dX6_canBeWall_94 : decode cX6_canBeWall 94 = .ok (.iconst 0, 1) := by decide +kernel
theorem dX6_canBeWall_95 : decode cX6_canBeWall 95 = .ok (.ireturn, 1) := by decide +kernel
theorem dX6_wall_0 : decode cX6_wall 0 = .ok (.aload_n 0, 1) := by decide +kernel
theorem dX6_wall_1 : decode cX6_wall 1 = .ok (.iload_n 1, 1) := by decide +kernel
theorem dX6_wall_2 : decode cX6_wall 2 = .ok (.invokevirtual 77, 3) := by decide +kernel
theorem dX6_wall_5 : decode cX6_wall 5 = .ok (.ifCond .eq 16, 3) := by decide +kernel
theorem dX6_wall_8 : decode cX6_wall 8 = .ok (.iload_n 2, 1) := by decide +kernel
theorem dX6_wall_9 : decode cX6_wall 9 = .ok (.iconst (-1), 1) := by decide +kernel
theorem dX6_wall_10 : decode cX6_wall 10 = .ok (.iconst 3, 1) := by decide +kernel
theorem dX6_wall_11 : decode cX6_wall 11 = .ok (.invokestatic 62, 3) := by decide +kernel
theorem dX6_wall_14 : decode cX6_wall 14 = .ok (.ifCond .eq 7, 3) := by decide +kernel
theorem dX6_wall_17 : decode cX6_wall 17 = .ok (.iconst 1, 1) := by decide +kernel
theorem dX6_wall_18 : decode cX6_wall 18 = .ok (.goto 4, 3) := by decide +kernel
theorem dX6_wall_21 : decode cX6_wall 21 = .ok (.iconst 0, 1) := by decide +kernel
theorem dX6_wall_22 : decode cX6_wall 22 = .ok (.istore_n 3, 1) := by decide +kernel
theorem dX6_wall_23 : decode cX6_wall 23 = .ok (.aload_n 0, 1) := by decide +kernel
theorem dX6_wall_24 : decode cX6_wall 24 = .ok (.iload_n 3, 1) := by decide +kernel
theorem dX6_wall_25 : decode cX6_wall 25 = .ok (.ifCond .ne 7, 3) := by decide +kernel
theorem dX6_wall_28 : decode cX6_wall 28 = .ok (.iconst 1, 1) := by decide +kernel
theorem dX6_wall_29 : decode cX6_wall 29 = .ok (.goto 17, 3) := by decide +kernel
theorem dX6_wall_32 : decode cX6_wall 32 = .ok (.aload_n 0, 1) := by decide +kernel
theorem dX6_wall_33 : decode cX6_wall 33 = .ok (.iload_n 1, 1) := by decide +kernel
theorem dX6_wall_34 : decode cX6_wall 34 = .ok (.iload_n 2, 1) := by decide +kernel
theorem dX6_wall_35 : decode cX6_wall 35 = .ok (.invokevirtual 80, 3) := by decide +kernel
theorem dX6_wall_38 : decode cX6_wall 38 = .ok (.ifCond .ne 7, 3) := by decide +kernel
theorem dX6_wall_41 : decode cX6_wall 41 = .ok (.iconst 2, 1) := by decide +kernel
theorem dX6_wall_42 : decode cX6_wall 42 = .ok (.goto 4, 3) := by decide +kernel
theorem dX6_wall_45 : decode cX6_wall 45 = .ok (.iconst 0, 1) := by decide +kernel
theorem dX6_wall_46 : decode cX6_wall 46 = .ok (.invokevirtual 84, 3) := by decide +kernel
theorem dX6_wall_49 : decode cX6_wall 49 = .ok (.ifCond .eq 4, 3) := by decide +kernel
theorem dX6_wall_52 : decode cX6_wall 52 = .ok (.return_, 1) := by decide +kernel
theorem dX6_wall_53 : decode cX6_wall 53 = .ok (.aload_n 0, 1) := by decide +kernel
theorem dX6_wall_54 : decode cX6_wall 54 = .ok (.getfield 7, 3) := by decide +kernel
theorem dX6_wall_57 : decode cX6_wall 57 = .ok (.iload_n 1, 1) := by decide +kernel
theorem dX6_wall_58 : decode cX6_wall 58 = .ok (.iconst 1, 1) := by decide +kernel
theorem dX6_wall_59 : decode cX6_wall 59 = .ok (.iastore, 1) := by decide +kernel
theorem dX6_wall_60 : decode cX6_wall 60 = .ok (.aload_n 0, 1) := by decide +kernel
theorem dX6_wall_61 : decode cX6_wall 61 = .ok (.getfield 13, 3) := by decide +kernel
theorem dX6_wall_64 : decode cX6_wall 64 = .ok (.iload_n 1, 1) := by decide +kernel
theorem dX6_wall_65 : decode cX6_wall 65 = .ok (.iload_n 2, 1) := by decide +kernel
theorem dX6_wall_66 : decode cX6_wall 66 = .ok (.iastore, 1) := by decide +kernel
theorem dX6_wall_67 : decode cX6_wall 67 = .ok (.aload_n 0, 1) := by decide +kernel
theorem dX6_wall_68 : decode cX6_wall 68 = .ok (.iconst 0, 1) := by decide +kernel
theorem dX6_wall_69 : decode cX6_wall 69 = .ok (.putfield 87, 3) := by decide +kernel
theorem dX6_wall_72 : decode cX6_wall 72 = .ok (.return_, 1) := by decide +kernel
theorem dX6_clear_0 : decode cX6_clear 0 = .ok (.aload_n 0, 1) := by decide +kernel
theorem dX6_clear_1 : decode cX6_clear 1 = .ok (.aload_n 0, 1) := by decide +kernel
theorem dX6_clear_2 : decode cX6_clear 2 = .ok (.iload_n 1, 1) := by decide +kernel
theorem dX6_clear_3 : decode cX6_clear 3 = .ok (.invokevirtual 77, 3) := by decide +kernel
theorem dX6_clear_6 : decode cX6_clear 6 = .ok (.ifCond .eq 7, 3) := by decide +kernel
theorem dX6_clear_9 : decode cX6_clear 9 = .ok (.iconst 0, 1) := by decide +kernel
theorem dX6_clear_10 : decode cX6_clear 10 = .ok (.goto 4, 3) := by decide +kernel
theorem dX6_clear_13 : decode cX6_clear 13 = .ok (.iconst 1, 1) := by decide +kernel
theorem dX6_clear_14 : decode cX6_clear 14 = .ok (.invokevirtual 84, 3) := by decide +kernel
theorem dX6_clear_17 : decode cX6_clear 17 = .ok (.ifCond .eq 5, 3) := by decide +kernel
theorem dX6_clear_20 : decode cX6_clear 20 = .ok (.iconst 0, 1) := by decide +kernel
theorem dX6_clear_21 : decode cX6_clear 21 = .ok (.ireturn, 1) := by decide +kernel
theorem dX6_clear_22 : decode cX6_clear 22 = .ok (.aload_n 0, 1) := by decide +kernel
theorem dX6_clear_23 : decode cX6_clear 23 = .ok (.getfield 7, 3) := by decide +kernel
theorem dX6_clear_26 : decode cX6_clear 26 = .ok (.iload_n 1, 1) := by decide +kernel
theorem dX6_clear_27 : decode cX6_clear 27 = .ok (.iaload, 1) := by decide +kernel
theorem dX6_clear_28 : decode cX6_clear 28 = .ok (.istore_n 2, 1) := by decide +kernel
theorem dX6_clear_29 : decode cX6_clear 29 = .ok (.aload_n 0, 1) := by decide +kernel
theorem dX6_clear_30 : decode cX6_clear 30 = .ok (.getfield 7, 3) := by decide +kernel
theorem dX6_clear_33 : decode cX6_clear 33 = .ok (.iload_n 1, 1) := by decide +kernel
theorem dX6_clear_34 : decode cX6_clear 34 = .ok (.iconst 0, 1) := by decide +kernel
theorem dX6_clear_35 : decode cX6_clear 35 = .ok (.iastore, 1) := by decide +kernel
theorem dX6_clear_36 : decode cX6_clear 36 = .ok (.aload_n 0, 1) := by decide +kernel
theorem dX6_clear_37 : decode cX6_clear 37 = .ok (.getfield 13, 3) := by decide +kernel
theorem dX6_clear_40 : decode cX6_clear 40 = .ok (.iload_n 1, 1) := by decide +kernel
theorem dX6_clear_41 : decode cX6_clear 41 = .ok (.iconst (-1), 1) := by decide +kernel
theorem dX6_clear_42 : decode cX6_clear 42 = .ok (.iastore, 1) := by decide +kernel
theorem dX6_clear_43 : decode cX6_clear 43 = .ok (.aload_n 0, 1) := by decide +kernel
theorem dX6_clear_44 : decode cX6_clear 44 = .ok (.iconst 0, 1) := by decide +kernel
theorem dX6_clear_45 : decode cX6_clear 45 = .ok (.putfield 87, 3) := by decide +kernel
theorem dX6_clear_48 : decode cX6_clear 48 = .ok (.iload_n 2, 1) := by decide +kernel
theorem dX6_clear_49 : decode cX6_clear 49 = .ok (.ireturn, 1) := by decide +kernel
theorem dX6_open_0 : decode cX6_open 0 = .ok (.aload_n 0, 1) := by decide +kernel
theorem dX6_open_1 : decode cX6_open 1 = .ok (.aload_n 0, 1) := by decide +kernel
theorem dX6_open_2 : decode cX6_open 2 = .ok (.iload_n 1, 1) := by decide +kernel
theorem dX6_open_3 : decode cX6_open 3 = .ok (.invokevirtual 77, 3) := by decide +kernel
theorem dX6_open_6 : decode cX6_open 6 = .ok (.ifCond .ne 7, 3) := by decide +kernel
theorem dX6_open_9 : decode cX6_open 9 = .ok (.iconst 1, 1) := by decide +kernel
theorem dX6_open_10 : decode cX6_open 10 = .ok (.goto 30, 3) := by decide +kernel
theorem dX6_open_13 : decode cX6_open 13 = .ok (.iload_n 2, 1) := by decide +kernel
theorem dX6_open_14 : decode cX6_open 14 = .ok (.iconst 2, 1) := by decide +kernel
theorem dX6_open_15 : decode cX6_open 15 = .ok (.iconst 3, 1) := by decide +kernel
theorem dX6_open_16 : decode cX6_open 16 = .ok (.invokestatic 62, 3) := by decide +kernel
theorem dX6_open_19 : decode cX6_open 19 = .ok (.ifCond .ne 7, 3) := by decide +kernel
theorem dX6_open_22 : decode cX6_open 22 = .ok (.iconst 2, 1) := by decide +kernel
theorem dX6_open_23 : decode cX6_open 23 = .ok (.goto 17, 3) := by decide +kernel
theorem dX6_open_26 : decode cX6_open 26 = .ok (.aload_n 0, 1) := by decide +kernel
theorem dX6_open_27 : decode cX6_open 27 = .ok (.getfield 7, 3) := by decide +kernel
theorem dX6_open_30 : decode cX6_open 30 = .ok (.iload_n 1, 1) := by decide +kernel
theorem dX6_open_31 : decode cX6_open 31 = .ok (.iaload, 1) := by decide +kernel
theorem dX6_open_32 : decode cX6_open 32 = .ok (.ifCond .eq 7, 3) := by decide +kernel
theorem dX6_open_35 : decode cX6_open 35 = .ok (.iconst 3, 1) := by decide +kernel
theorem dX6_open_36 : decode cX6_open 36 = .ok (.goto 4, 3) := by decide +kernel
theorem dX6_open_39 : decode cX6_open 39 = .ok (.iconst 0, 1) := by decide +kernel
theorem dX6_open_40 : decode cX6_open 40 = .ok (.invokevirtual 84, 3) := by decide +kernel
theorem dX6_open_43 : decode cX6_open 43 = .ok (.ifCond .eq 4, 3) := by decide +kernel
theorem dX6_open_46 : decode cX6_open 46 = .ok (.return_, 1) := by decide +kernel
theorem dX6_open_47 : decode cX6_open 47 = .ok (.aload_n 0, 1) := by decide +kernel
theorem dX6_open_48 : decode cX6_open 48 = .ok (.getfield 7, 3) := by decide +kernel
theorem dX6_open_51 : decode cX6_open 51 = .ok (.iload_n 1, 1) := by decide +kernel
theorem dX6_open_52 : decode cX6_open 52 = .ok (.iload_n 2, 1) := by decide +kernel
theorem dX6_open_53 : decode cX6_open 53 = .ok (.iastore, 1) := by decide +kernel
theorem dX6_open_54 : decode cX6_open 54 = .ok (.aload_n 0, 1) := by decide +kernel
theorem dX6_open_55 : decode cX6_open 55 = .ok (.iconst 0, 1) := by decide +kernel
theorem dX6_open_56 : decode cX6_open 56 = .ok (.putfield 87, 3) := by decide +kernel
theorem dX6_open_59 : decode cX6_open 59 = .ok (.return_, 1) := by decide +kernel
theorem dX6_particle_0 : decode cX6_particle 0 = .ok (.aload_n 0, 1) := by decide +kernel
theorem dX6_particle_1 : decode cX6_particle 1 = .ok (.iload_n 1, 1) := by decide +kernel
theorem dX6_particle_2 : decode cX6_particle 2 = .ok (.invokevirtual 77, 3) := by decide +kernel
theorem dX6_particle_5 : decode cX6_particle 5 = .ok (.istore_n 3, 1) := by decide +kernel
theorem dX6_particle_6 : decode cX6_particle 6 = .ok (.iload_n 2, 1) := by decide +kernel
theorem dX6_particle_7 : decode cX6_particle 7 = .ok (.iconst 0, 1) := by decide +kernel
theorem dX6_particle_8 : decode cX6_particle 8 = .ok (.iconst 3, 1) := by decide +kernel
theorem dX6_particle_9 : decode cX6_particle 9 = .ok (.invokestatic 62, 3) := by decide +kernel
theorem dX6_particle_12 : decode cX6_particle 12 = .ok (.istore 4, 2) := by decide +kernel
theorem dX6_particle_14 : decode cX6_particle 14 = .ok (.aload_n 0, 1) := by decide +kernel
theorem dX6_particle_15 : decode cX6_particle 15 = .ok (.iload_n 3, 1) := by decide +kernel
theorem dX6_particle_16 : decode cX6_particle 16 = .ok (.ifCond .ne 7, 3) := by decide +kernel
theorem dX6_particle_19 : decode cX6_particle 19 = .ok (.iconst 1, 1) := by decide +kernel
theorem dX6_particle_20 : decode cX6_particle 20 = .ok (.goto 41, 3) := by decide +kernel
theorem dX6_particle_23 : decode cX6_particle 23 = .ok (.iload 4, 2) := by decide +kernel
theorem dX6_particle_25 : decode cX6_particle 25 = .ok (.ifCond .ne 7, 3) := by decide +kernel
theorem dX6_particle_28 : decode cX6_particle 28 = .ok (.iconst 2, 1) := by decide +kernel
theorem dX6_particle_29 : decode cX6_particle 29 = .ok (.goto 32, 3) := by decide +kernel
theorem dX6_particle_32 : decode cX6_particle 32 = .ok (.aload_n 0, 1) := by decide +kernel
theorem dX6_particle_33 : decode cX6_particle 33 = .ok (.getfield 7, 3) := by decide +kernel
theorem dX6_particle_36 : decode cX6_particle 36 = .ok (.iload_n 1, 1) := by decide +kernel
theorem dX6_particle_37 : decode cX6_particle 37 = .ok (.iaload, 1) := by decide +kernel
theorem dX6_particle_38 : decode cX6_particle 38 = .ok (.iconst 1, 1) := by decide +kernel
theorem dX6_particle_39 : decode cX6_particle 39 = .ok (.if_icmp .eq 17, 3) := by decide +kernel
theorem dX6_particle_42 : decode cX6_particle 42 = .ok (.aload_n 0, 1) := by decide +kernel
theorem dX6_particle_43 : decode cX6_particle 43 = .ok (.getfield 16, 3) := by decide +kernel
theorem dX6_particle_46 : decode cX6_particle 46 = .ok (.iload_n 1, 1) := by decide +kernel
theorem dX6_particle_47 : decode cX6_particle 47 = .ok (.iaload, 1) := by decide +kernel
theorem dX6_particle_48 : decode cX6_particle 48 = .ok (.iload_n 2, 1) := by decide +kernel
theorem dX6_particle_49 : decode cX6_particle 49 = .ok (.ishr, 1) := by decide +kernel
theorem dX6_particle_50 : decode cX6_particle 50 = .ok (.iconst 1, 1) := by decide +kernel
theorem dX6_particle_51 : decode cX6_particle 51 = .ok (.iand, 1) := by decide +kernel
theorem dX6_particle_52 : decode cX6_particle 52 = .ok (.iconst 1, 1) := by decide +kernel
theorem dX6_particle_53 : decode cX6_particle 53 = .ok (.if_icmp .ne 7, 3) := by decide +kernel
theorem dX6_particle_56 : decode cX6_particle 56 = .ok (.iconst 3, 1) := by decide +kernel
theorem dX6_particle_57 : decode cX6_particle 57 = .ok (.goto 4, 3) := by decide +kernel
theorem dX6_particle_60 : decode cX6_particle 60 = .ok (.iconst 0, 1) := by decide +kernel
theorem dX6_particle_61 : decode cX6_particle 61 = .ok (.invokevirtual 84, 3) := by decide +kernel
theorem dX6_particle_64 : decode cX6_particle 64 = .ok (.ifCond .eq 5, 3) := by decide +kernel
theorem dX6_particle_67 : decode cX6_particle 67 = .ok (.iconst 0, 1) := by decide +kernel
theorem dX6_particle_68 : decode cX6_particle 68 = .ok (.ireturn, 1) := by decide +kernel
theorem dX6_particle_69 : decode cX6_particle 69 = .ok (.aload_n 0, 1) := by decide +kernel
theorem dX6_particle_70 : decode cX6_particle 70 = .ok (.getfield 16, 3) := by decide +kernel
theorem dX6_particle_73 : decode cX6_particle 73 = .ok (.iload_n 1, 1) := by decide +kernel
theorem dX6_particle_74 : decode cX6_particle 74 = .ok (.dup2, 1) := by decide +kernel
theorem dX6_particle_75 : decode cX6_particle 75 = .ok (.iaload, 1) := by decide +kernel
theorem dX6_particle_76 : decode cX6_particle 76 = .ok (.iconst 1, 1) := by decide +kernel
theorem dX6_particle_77 : decode cX6_particle 77 = .ok (.iload_n 2, 1) := by decide +kernel
theorem dX6_particle_78 : decode cX6_particle 78 = .ok (.ishl, 1) := by decide +kernel
theorem dX6_particle_79 : decode cX6_particle 79 = .ok (.ior, 1) := by decide +kernel
theorem dX6_particle_80 : decode cX6_particle 80 = .ok (.iastore, 1) := by decide +kernel
theorem dX6_particle_81 : decode cX6_particle 81 = .ok (.aload_n 0, 1) := by decide +kernel
theorem dX6_particle_82 : decode cX6_particle 82 = .ok (.iconst 0, 1) := by decide +kernel
theorem dX6_particle_83 : decode cX6_particle 83 = .ok (.putfield 87, 3) := by decide +kernel
theorem dX6_particle_86 : decode cX6_particle 86 = .ok (.aload_n 0, 1) := by decide +kernel
theorem dX6_particle_87 : decode cX6_particle 87 = .ok (.getfield 16, 3) := by decide +kernel
theorem dX6_particle_90 : decode cX6_particle 90 = .ok (.iload_n 1, 1) := by decide +kernel
theorem dX6_particle_91 : decode cX6_particle 91 = .ok (.iaload, 1) := by decide +kernel
theorem dX6_particle_92 : decode cX6_particle 92 = .ok (.ireturn, 1) := by decide +kernel
theorem dX6_ink_0 : decode cX6_ink 0 = .ok (.aload_n 0, 1) := by decide +kernel
theorem dX6_ink_1 : decode cX6_ink 1 = .ok (.aload_n 0, 1) := by decide +kernel
theorem dX6_ink_2 : decode cX6_ink 2 = .ok (.iload_n 1, 1) := by decide +kernel
theorem dX6_ink_3 : decode cX6_ink 3 = .ok (.invokevirtual 77, 3) := by decide +kernel
theorem dX6_ink_6 : decode cX6_ink 6 = .ok (.ifCond .eq 7, 3) := by decide +kernel
theorem dX6_ink_9 : decode cX6_ink 9 = .ok (.iconst 0, 1) := by decide +kernel
theorem dX6_ink_10 : decode cX6_ink 10 = .ok (.goto 4, 3) := by decide +kernel
theorem dX6_ink_13 : decode cX6_ink 13 = .ok (.iconst 1, 1) := by decide +kernel
theorem dX6_ink_14 : decode cX6_ink 14 = .ok (.invokevirtual 84, 3) := by decide +kernel
theorem dX6_ink_17 : decode cX6_ink 17 = .ok (.ifCond .eq 5, 3) := by decide +kernel
theorem dX6_ink_20 : decode cX6_ink 20 = .ok (.iconst 0, 1) := by decide +kernel
theorem dX6_ink_21 : decode cX6_ink 21 = .ok (.ireturn, 1) := by decide +kernel
theorem dX6_ink_22 : decode cX6_ink 22 = .ok (.aload_n 0, 1) := by decide +kernel
theorem dX6_ink_23 : decode cX6_ink 23 = .ok (.getfield 16, 3) := by decide +kernel
theorem dX6_ink_26 : decode cX6_ink 26 = .ok (.iload_n 1, 1) := by decide +kernel
theorem dX6_ink_27 : decode cX6_ink 27 = .ok (.iaload, 1) := by decide +kernel
theorem dX6_ink_28 : decode cX6_ink 28 = .ok (.invokestatic 90, 3) := by decide +kernel
theorem dX6_ink_31 : decode cX6_ink 31 = .ok (.aload_n 0, 1) := by decide +kernel
theorem dX6_ink_32 : decode cX6_ink 32 = .ok (.getfield 19, 3) := by decide +kernel
theorem dX6_ink_35 : decode cX6_ink 35 = .ok (.iload_n 1, 1) := by decide +kernel
theorem dX6_ink_36 : decode cX6_ink 36 = .ok (.iaload, 1) := by decide +kernel
theorem dX6_ink_37 : decode cX6_ink 37 = .ok (.invokestatic 90, 3) := by decide +kernel
theorem dX6_ink_40 : decode cX6_ink 40 = .ok (.isub, 1) := by decide +kernel
theorem dX6_ink_41 : decode cX6_ink 41 = .ok (.istore_n 2, 1) := by decide +kernel
theorem dX6_ink_42 : decode cX6_ink 42 = .ok (.aload_n 0, 1) := by decide +kernel
theorem dX6_ink_43 : decode cX6_ink 43 = .ok (.getfield 19, 3) := by decide +kernel
theorem dX6_ink_46 : decode cX6_ink 46 = .ok (.iload_n 1, 1) := by decide +kernel
theorem dX6_ink_47 : decode cX6_ink 47 = .ok (.aload_n 0, 1) := by decide +kernel
theorem dX6_ink_48 : decode cX6_ink 48 = .ok (.getfield 16, 3) := by decide +kernel
theorem dX6_ink_51 : decode cX6_ink 51 = .ok (.iload_n 1, 1) := by decide +kernel
theorem dX6_ink_52 : decode cX6_ink 52 = .ok (.iaload, 1) := by decide +kernel
theorem dX6_ink_53 : decode cX6_ink 53 = .ok (.iastore, 1) := by decide +kernel
theorem dX6_ink_54 : decode cX6_ink 54 = .ok (.aload_n 0, 1) := by decide +kernel
theorem dX6_ink_55 : decode cX6_ink 55 = .ok (.iconst 0, 1) := by decide +kernel
theorem dX6_ink_56 : decode cX6_ink 56 = .ok (.putfield 87, 3) := by decide +kernel
theorem dX6_ink_59 : decode cX6_ink 59 = .ok (.iload_n 2, 1) := by decide +kernel
theorem dX6_ink_60 : decode cX6_ink 60 = .ok (.ireturn, 1) := by decide +kernel
theorem dX6_probe_0 : decode cX6_probe 0 = .ok (.aload_n 0, 1) := by decide +kernel
theorem dX6_probe_1 : decode cX6_probe 1 = .ok (.aload_n 0, 1) := by decide +kernel
theorem dX6_probe_2 : decode cX6_probe 2 = .ok (.iload_n 1, 1) := by decide +kernel
theorem dX6_probe_3 : decode cX6_probe 3 = .ok (.invokevirtual 77, 3) := by decide +kernel
theorem dX6_probe_6 : decode cX6_probe 6 = .ok (.ifCond .ne 7, 3) := by decide +kernel
theorem dX6_probe_9 : decode cX6_probe 9 = .ok (.iconst 1, 1) := by decide +kernel
theorem dX6_probe_10 : decode cX6_probe 10 = .ok (.goto 26, 3) := by decide +kernel
theorem dX6_probe_13 : decode cX6_probe 13 = .ok (.aload_n 0, 1) := by decide +kernel
theorem dX6_probe_14 : decode cX6_probe 14 = .ok (.getfield 7, 3) := by decide +kernel
theorem dX6_probe_17 : decode cX6_probe 17 = .ok (.iload_n 1, 1) := by decide +kernel
theorem dX6_probe_18 : decode cX6_probe 18 = .ok (.iaload, 1) := by decide +kernel
theorem dX6_probe_19 : decode cX6_probe 19 = .ok (.iconst 1, 1) := by decide +kernel
theorem dX6_probe_20 : decode cX6_probe 20 = .ok (.if_icmp .eq 11, 3) := by decide +kernel
theorem dX6_probe_23 : decode cX6_probe 23 = .ok (.aload_n 0, 1) := by decide +kernel
theorem dX6_probe_24 : decode cX6_probe 24 = .ok (.getfield 66, 3) := by decide +kernel
theorem dX6_probe_27 : decode cX6_probe 27 = .ok (.iconst 4, 1) := by decide +kernel
theorem dX6_probe_28 : decode cX6_probe 28 = .ok (.if_icmp .ne 7, 3) := by decide +kernel
theorem dX6_probe_31 : decode cX6_probe 31 = .ok (.iconst 2, 1) := by decide +kernel
theorem dX6_probe_32 : decode cX6_probe 32 = .ok (.goto 4, 3) := by decide +kernel
theorem dX6_probe_35 : decode cX6_probe 35 = .ok (.iconst 0, 1) := by decide +kernel
theorem dX6_probe_36 : decode cX6_probe 36 = .ok (.invokevirtual 84, 3) := by decide +kernel
theorem dX6_probe_39 : decode cX6_probe 39 = .ok (.ifCond .eq 5, 3) := by decide +kernel
theorem dX6_probe_42 : decode cX6_probe 42 = .ok (.iconst 0, 1) := by decide +kernel
theorem dX6_probe_43 : decode cX6_probe 43 = .ok (.ireturn, 1) := by decide +kernel
theorem dX6_probe_44 : decode cX6_probe 44 = .ok (.aload_n 0, 1) := by decide +kernel
theorem dX6_probe_45 : decode cX6_probe 45 = .ok (.getfield 49, 3) := by decide +kernel
theorem dX6_probe_48 : decode cX6_probe 48 = .ok (.aload_n 0, 1) := by decide +kernel
theorem dX6_probe_49 : decode cX6_probe 49 = .ok (.getfield 66, 3) := by decide +kernel
theorem dX6_probe_52 : decode cX6_probe 52 = .ok (.iload_n 1, 1) := by decide +kernel
theorem dX6_probe_53 : decode cX6_probe 53 = .ok (.iastore, 1) := by decide +kernel
theorem dX6_probe_54 : decode cX6_probe 54 = .ok (.aload_n 0, 1) := by decide +kernel
theorem dX6_probe_55 : decode cX6_probe 55 = .ok (.dup, 1) := by decide +kernel
theorem dX6_probe_56 : decode cX6_probe 56 = .ok (.getfield 66, 3) := by decide +kernel
theorem dX6_probe_59 : decode cX6_probe 59 = .ok (.iconst 1, 1) := by decide +kernel
theorem dX6_probe_60 : decode cX6_probe 60 = .ok (.iadd, 1) := by decide +kernel
theorem dX6_probe_61 : decode cX6_probe 61 = .ok (.putfield 66, 3) := by decide +kernel
theorem dX6_probe_64 : decode cX6_probe 64 = .ok (.aload_n 0, 1) := by decide +kernel
theorem dX6_probe_65 : decode cX6_probe 65 = .ok (.iconst 0, 1) := by decide +kernel
theorem dX6_probe_66 : decode cX6_probe 66 = .ok (.putfield 87, 3) := by decide +kernel
theorem dX6_probe_69 : decode cX6_probe 69 = .ok (.aload_n 0, 1) := by decide +kernel
theorem dX6_probe_70 : decode cX6_probe 70 = .ok (.getfield 66, 3) := by decide +kernel
theorem dX6_probe_73 : decode cX6_probe 73 = .ok (.iconst 1, 1) := by decide +kernel
theorem dX6_probe_74 : decode cX6_probe 74 = .ok (.isub, 1) := by decide +kernel
theorem dX6_probe_75 : decode cX6_probe 75 = .ok (.ireturn, 1) := by decide +kernel
theorem dX6_fault_0 : decode cX6_fault 0 = .ok (.aload_n 0, 1) := by decide +kernel
theorem dX6_fault_1 : decode cX6_fault 1 = .ok (.iload_n 1, 1) := by decide +kernel
theorem dX6_fault_2 : decode cX6_fault 2 = .ok (.iconst 0, 1) := by decide +kernel
theorem dX6_fault_3 : decode cX6_fault 3 = .ok (.iconst 3, 1) := by decide +kernel
theorem dX6_fault_4 : decode cX6_fault 4 = .ok (.invokestatic 62, 3) := by decide +kernel
theorem dX6_fault_7 : decode cX6_fault 7 = .ok (.ifCond .ne 7, 3) := by decide +kernel
theorem dX6_fault_10 : decode cX6_fault 10 = .ok (.iconst 1, 1) := by decide +kernel
theorem dX6_fault_11 : decode cX6_fault 11 = .ok (.goto 18, 3) := by decide +kernel
theorem dX6_fault_14 : decode cX6_fault 14 = .ok (.iload_n 2, 1) := by decide +kernel
theorem dX6_fault_15 : decode cX6_fault 15 = .ok (.bipush (-5), 2) := by decide +kernel
theorem dX6_fault_17 : decode cX6_fault 17 = .ok (.iconst 5, 1) := by decide +kernel
theorem dX6_fault_18 : decode cX6_fault 18 = .ok (.invokestatic 62, 3) := by decide +kernel
theorem dX6_fault_21 : decode cX6_fault 21 = .ok (.ifCond .ne 7, 3) := by decide +kernel
theorem dX6_fault_24 : decode cX6_fault 24 = .ok (.iconst 2, 1) := by decide +kernel
theorem dX6_fault_25 : decode cX6_fault 25 = .ok (.goto 4, 3) := by decide +kernel
theorem dX6_fault_28 : decode cX6_fault 28 = .ok (.iconst 0, 1) := by decide +kernel
theorem dX6_fault_29 : decode cX6_fault 29 = .ok (.invokevirtual 84, 3) := by decide +kernel
theorem dX6_fault_32 : decode cX6_fault 32 = .ok (.ifCond .eq 5, 3) := by decide +kernel
theorem dX6_fault_35 : decode cX6_fault 35 = .ok (.iconst 0, 1) := by decide +kernel
theorem dX6_fault_36 : decode cX6_fault 36 = .ok (.ireturn, 1) := by decide +kernel
theorem dX6_fault_37 : decode cX6_fault 37 = .ok (.aload_n 0, 1) := by decide +kernel
theorem dX6_fault_38 : decode cX6_fault 38 = .ok (.getfield 43, 3) := by decide +kernel
theorem dX6_fault_41 : decode cX6_fault 41 = .ok (.iload_n 1, 1) := by decide +kernel
theorem dX6_fault_42 : decode cX6_fault 42 = .ok (.iaload, 1) := by decide +kernel
theorem dX6_fault_43 : decode cX6_fault 43 = .ok (.istore_n 3, 1) := by decide +kernel
theorem dX6_fault_44 : decode cX6_fault 44 = .ok (.aload_n 0, 1) := by decide +kernel
theorem dX6_fault_45 : decode cX6_fault 45 = .ok (.getfield 43, 3) := by decide +kernel
theorem dX6_fault_48 : decode cX6_fault 48 = .ok (.iload_n 1, 1) := by decide +kernel
theorem dX6_fault_49 : decode cX6_fault 49 = .ok (.iload_n 2, 1) := by decide +kernel
theorem dX6_fault_50 : decode cX6_fault 50 = .ok (.iastore, 1) := by decide +kernel
theorem dX6_fault_51 : decode cX6_fault 51 = .ok (.iload_n 3, 1) := by decide +kernel
theorem dX6_fault_52 : decode cX6_fault 52 = .ok (.ireturn, 1) := by decide +kernel
theorem dX6_allCounts_0 : decode cX6_allCounts 0 = .ok (.lconst 0, 1) := by decide +kernel
theorem dX6_allCounts_1 : decode cX6_allCounts 1 = .ok (.lstore_n 1, 1) := by decide +kernel
theorem dX6_allCounts_2 : decode cX6_allCounts 2 = .ok (.iconst 0, 1) := by decide +kernel
theorem dX6_allCounts_3 : decode cX6_allCounts 3 = .ok (.istore_n 3, 1) := by decide +kernel
theorem dX6_allCounts_4 : decode cX6_allCounts 4 = .ok (.iload_n 3, 1) := by decide +kernel
theorem dX6_allCounts_5 : decode cX6_allCounts 5 = .ok (.sipush 384, 3) := by decide +kernel
theorem dX6_allCounts_8 : decode cX6_allCounts 8 = .ok (.if_icmp .ge 19, 3) := by decide +kernel
theorem dX6_allCounts_11 : decode cX6_allCounts 11 = .ok (.lload_n 1, 1) := by decide +kernel
theorem dX6_allCounts_12 : decode cX6_allCounts 12 = .ok (.aload_n 0, 1) := by decide +kernel
theorem dX6_allCounts_13 : decode cX6_allCounts 13 = .ok (.getfield 34, 3) := by decide +kernel
theorem dX6_allCounts_16 : decode cX6_allCounts 16 = .ok (.iload_n 3, 1) := by decide +kernel
theorem dX6_allCounts_17 : decode cX6_allCounts 17 = .ok (.iaload, 1) := by decide +kernel
theorem dX6_allCounts_18 : decode cX6_allCounts 18 = .ok (.i2l, 1) := by decide +kernel
theorem dX6_allCounts_19 : decode cX6_allCounts 19 = .ok (.ladd, 1) := by decide +kernel
theorem dX6_allCounts_20 : decode cX6_allCounts 20 = .ok (.lstore_n 1, 1) := by decide +kernel
theorem dX6_allCounts_21 : decode cX6_allCounts 21 = .ok (.iinc 3 1, 3) := by decide +kernel
theorem dX6_allCounts_24 : decode cX6_allCounts 24 = .ok (.goto (-20), 3) := by decide +kernel
theorem dX6_allCounts_27 : decode cX6_allCounts 27 = .ok (.lload_n 1, 1) := by decide +kernel
theorem dX6_allCounts_28 : decode cX6_allCounts 28 = .ok (.lreturn, 1) := by decide +kernel
theorem dX6_bring_0 : decode cX6_bring 0 = .ok (.iload_n 2, 1) := by decide +kernel
theorem dX6_bring_1 : decode cX6_bring 1 = .ok (.iconst 0, 1) := by decide +kernel
theorem dX6_bring_2 : decode cX6_bring 2 = .ok (.iconst 3, 1) := by decide +kernel
theorem dX6_bring_3 : decode cX6_bring 3 = .ok (.invokestatic 62, 3) := by decide +kernel
theorem dX6_bring_6 : decode cX6_bring 6 = .ok (.ifCond .eq 17, 3) := by decide +kernel
theorem dX6_bring_9 : decode cX6_bring 9 = .ok (.iload_n 3, 1) := by decide +kernel
theorem dX6_bring_10 : decode cX6_bring 10 = .ok (.iconst 1, 1) := by decide +kernel
theorem dX6_bring_11 : decode cX6_bring 11 = .ok (.ldc 93, 2) := by decide +kernel
theorem dX6_bring_13 : decode cX6_bring 13 = .ok (.invokestatic 62, 3) := by decide +kernel
theorem dX6_bring_16 : decode cX6_bring 16 = .ok (.ifCond .eq 7, 3) := by decide +kernel
theorem dX6_bring_19 : decode cX6_bring 19 = .ok (.iconst 1, 1) := by decide +kernel
theorem dX6_bring_20 : decode cX6_bring 20 = .ok (.goto 4, 3) := by decide +kernel
theorem dX6_bring_23 : decode cX6_bring 23 = .ok (.iconst 0, 1) := by decide +kernel
theorem dX6_bring_24 : decode cX6_bring 24 = .ok (.istore 4, 2) := by decide +kernel
theorem dX6_bring_26 : decode cX6_bring 26 = .ok (.aload_n 0, 1) := by decide +kernel
theorem dX6_bring_27 : decode cX6_bring 27 = .ok (.iload_n 1, 1) := by decide +kernel
theorem dX6_bring_28 : decode cX6_bring 28 = .ok (.invokevirtual 77, 3) := by decide +kernel
theorem dX6_bring_31 : decode cX6_bring 31 = .ok (.istore 5, 2) := by decide +kernel
theorem dX6_bring_33 : decode cX6_bring 33 = .ok (.aload_n 0, 1) := by decide +kernel
theorem dX6_bring_34 : decode cX6_bring 34 = .ok (.iload 5, 2) := by decide +kernel
theorem dX6_bring_36 : decode cX6_bring 36 = .ok (.ifCond .ne 7, 3) := by decide +kernel
theorem dX6_bring_39 : decode cX6_bring 39 = .ok (.iconst 1, 1) := by decide +kernel
theorem dX6_bring_40 : decode cX6_bring 40 = .ok (.goto 41, 3) := by decide +kernel
theorem dX6_bring_43 : decode cX6_bring 43 = .ok (.iload 4, 2) := by decide +kernel
theorem dX6_bring_45 : decode cX6_bring 45 = .ok (.ifCond .ne 7, 3) := by decide +kernel
theorem dX6_bring_48 : decode cX6_bring 48 = .ok (.iconst 2, 1) := by decide +kernel
theorem dX6_bring_49 : decode cX6_bring 49 = .ok (.goto 32, 3) := by decide +kernel
theorem dX6_bring_52 : decode cX6_bring 52 = .ok (.aload_n 0, 1) := by decide +kernel
theorem dX6_bring_53 : decode cX6_bring 53 = .ok (.getfield 7, 3) := by decide +kernel
theorem dX6_bring_56 : decode cX6_bring 56 = .ok (.iload_n 1, 1) := by decide +kernel
theorem dX6_bring_57 : decode cX6_bring 57 = .ok (.iaload, 1) := by decide +kernel
theorem dX6_bring_58 : decode cX6_bring 58 = .ok (.iconst 1, 1) := by decide +kernel
theorem dX6_bring_59 : decode cX6_bring 59 = .ok (.if_icmp .eq 17, 3) := by decide +kernel
theorem dX6_bring_62 : decode cX6_bring 62 = .ok (.aload_n 0, 1) := by decide +kernel
theorem dX6_bring_63 : decode cX6_bring 63 = .ok (.invokevirtual 94, 3) := by decide +kernel
theorem dX6_bring_66 : decode cX6_bring 66 = .ok (.iload_n 3, 1) := by decide +kernel
theorem dX6_bring_67 : decode cX6_bring 67 = .ok (.i2l, 1) := by decide +kernel
theorem dX6_bring_68 : decode cX6_bring 68 = .ok (.ladd, 1) := by decide +kernel
theorem dX6_bring_69 : decode cX6_bring 69 = .ok (.ldc2_w 98, 3) := by decide +kernel
theorem dX6_bring_72 : decode cX6_bring 72 = .ok (.lcmp, 1) := by decide +kernel
theorem dX6_bring_73 : decode cX6_bring 73 = .ok (.ifCond .le 7, 3) := by decide +kernel
theorem dX6_bring_76 : decode cX6_bring 76 = .ok (.iconst 3, 1) := by decide +kernel
theorem dX6_bring_77 : decode cX6_bring 77 = .ok (.goto 4, 3) := by decide +kernel
theorem dX6_bring_80 : decode cX6_bring 80 = .ok (.iconst 0, 1) := by decide +kernel
theorem dX6_bring_81 : decode cX6_bring 81 = .ok (.invokevirtual 84, 3) := by decide +kernel
theorem dX6_bring_84 : decode cX6_bring 84 = .ok (.ifCond .eq 5, 3) := by decide +kernel
theorem dX6_bring_87 : decode cX6_bring 87 = .ok (.iconst 0, 1) := by decide +kernel
theorem dX6_bring_88 : decode cX6_bring 88 = .ok (.ireturn, 1) := by decide +kernel
theorem dX6_bring_89 : decode cX6_bring 89 = .ok (.aload_n 0, 1) := by decide +kernel
theorem dX6_bring_90 : decode cX6_bring 90 = .ok (.getfield 34, 3) := by decide +kernel
theorem dX6_bring_93 : decode cX6_bring 93 = .ok (.iconst 4, 1) := by decide +kernel
theorem dX6_bring_94 : decode cX6_bring 94 = .ok (.iload_n 1, 1) := by decide +kernel
theorem dX6_bring_95 : decode cX6_bring 95 = .ok (.imul, 1) := by decide +kernel
theorem dX6_bring_96 : decode cX6_bring 96 = .ok (.iload_n 2, 1) := by decide +kernel
theorem dX6_bring_97 : decode cX6_bring 97 = .ok (.iadd, 1) := by decide +kernel
theorem dX6_bring_98 : decode cX6_bring 98 = .ok (.dup2, 1) := by decide +kernel
theorem dX6_bring_99 : decode cX6_bring 99 = .ok (.iaload, 1) := by decide +kernel
theorem dX6_bring_100 : decode cX6_bring 100 = .ok (.iload_n 3, 1) := by decide +kernel
theorem dX6_bring_101 : decode cX6_bring 101 = .ok (.iadd, 1) := by decide +kernel
theorem dX6_bring_102 : decode cX6_bring 102 = .ok (.iastore, 1) := by decide +kernel
theorem dX6_bring_103 : decode cX6_bring 103 = .ok (.aload_n 0, 1) := by decide +kernel
theorem dX6_bring_104 : decode cX6_bring 104 = .ok (.getfield 34, 3) := by decide +kernel
theorem dX6_bring_107 : decode cX6_bring 107 = .ok (.iconst 4, 1) := by decide +kernel
theorem dX6_bring_108 : decode cX6_bring 108 = .ok (.iload_n 1, 1) := by decide +kernel
theorem dX6_bring_109 : decode cX6_bring 109 = .ok (.imul, 1) := by decide +kernel
theorem dX6_bring_110 : decode cX6_bring 110 = .ok (.iload_n 2, 1) := by decide +kernel
theorem dX6_bring_111 : decode cX6_bring 111 = .ok (.iadd, 1) := by decide +kernel
theorem dX6_bring_112 : decode cX6_bring 112 = .ok (.iaload, 1) := by decide +kernel
theorem dX6_bring_113 : decode cX6_bring 113 = .ok (.ireturn, 1) := by decide +kernel
theorem dX6_turned_0 : decode cX6_turned 0 = .ok (.bipush 15, 2) := by decide +kernel
theorem dX6_turned_2 : decode cX6_turned 2 = .ok (.iload_n 0, 1) := by decide +kernel
theorem dX6_turned_3 : decode cX6_turned 3 = .ok (.iconst 1, 1) := by decide +kernel
theorem dX6_turned_4 : decode cX6_turned 4 = .ok (.ishl, 1) := by decide +kernel
theorem dX6_turned_5 : decode cX6_turned 5 = .ok (.iload_n 0, 1) := by decide +kernel
theorem dX6_turned_6 : decode cX6_turned 6 = .ok (.iconst 3, 1) := by decide +kernel
theorem dX6_turned_7 : decode cX6_turned 7 = .ok (.ishr, 1) := by decide +kernel
theorem dX6_turned_8 : decode cX6_turned 8 = .ok (.ior, 1) := by decide +kernel
theorem dX6_turned_9 : decode cX6_turned 9 = .ok (.iand, 1) := by decide +kernel
theorem dX6_turned_10 : decode cX6_turned 10 = .ok (.ireturn, 1) := by decide +kernel
theorem dX6_meets_0 : decode cX6_meets 0 = .ok (.iload_n 0, 1) := by decide +kernel
theorem dX6_meets_1 : decode cX6_meets 1 = .ok (.iconst 5, 1) := by decide +kernel
theorem dX6_meets_2 : decode cX6_meets 2 = .ok (.if_icmp .eq 9, 3) := by decide +kernel
theorem dX6_meets_5 : decode cX6_meets 5 = .ok (.iload_n 0, 1) := by decide +kernel
theorem dX6_meets_6 : decode cX6_meets 6 = .ok (.bipush 10, 2) := by decide +kernel
theorem dX6_meets_8 : decode cX6_meets 8 = .ok (.if_icmp .ne 7, 3) := by decide +kernel
theorem dX6_meets_11 : decode cX6_meets 11 = .ok (.iconst 1, 1) := by decide +kernel
theorem dX6_meets_12 : decode cX6_meets 12 = .ok (.goto 4, 3) := by decide +kernel
theorem dX6_meets_15 : decode cX6_meets 15 = .ok (.iconst 0, 1) := by decide +kernel
theorem dX6_meets_16 : decode cX6_meets 16 = .ok (.ireturn, 1) := by decide +kernel
