theorem dX6_mixed_0 : decode cX6_mixed 0 = .ok (.aload_n 0, 1) := by decide +kernel
theorem dX6_mixed_1 : decode cX6_mixed 1 = .ok (.iload_n 1, 1) := by decide +kernel
theorem dX6_mixed_2 : decode cX6_mixed 2 = .ok (.iconst 0, 1) := by decide +kernel
theorem dX6_mixed_3 : decode cX6_mixed 3 = .ok (.iconst 1, 1) := by decide +kernel
theorem dX6_mixed_4 : decode cX6_mixed 4 = .ok (.invokestatic 62, 3) := by decide +kernel
theorem dX6_mixed_7 : decode cX6_mixed 7 = .ok (.ifCond .eq 7, 3) := by decide +kernel
theorem dX6_mixed_10 : decode cX6_mixed 10 = .ok (.iconst 0, 1) := by decide +kernel
theorem dX6_mixed_11 : decode cX6_mixed 11 = .ok (.goto 4, 3) := by decide +kernel
theorem dX6_mixed_14 : decode cX6_mixed 14 = .ok (.iconst 1, 1) := by decide +kernel
theorem dX6_mixed_15 : decode cX6_mixed 15 = .ok (.invokevirtual 84, 3) := by decide +kernel
theorem dX6_mixed_18 : decode cX6_mixed 18 = .ok (.ifCond .eq 7, 3) := by decide +kernel
theorem dX6_mixed_21 : decode cX6_mixed 21 = .ok (.lconst 0, 1) := by decide +kernel
theorem dX6_mixed_22 : decode cX6_mixed 22 = .ok (.goto 18, 3) := by decide +kernel
theorem dX6_mixed_25 : decode cX6_mixed 25 = .ok (.iload_n 1, 1) := by decide +kernel
theorem dX6_mixed_26 : decode cX6_mixed 26 = .ok (.ifCond .ne 10, 3) := by decide +kernel
theorem dX6_mixed_29 : decode cX6_mixed 29 = .ok (.aload_n 0, 1) := by decide +kernel
theorem dX6_mixed_30 : decode cX6_mixed 30 = .ok (.invokevirtual 189, 3) := by decide +kernel
theorem dX6_mixed_33 : decode cX6_mixed 33 = .ok (.goto 7, 3) := by decide +kernel
theorem dX6_mixed_36 : decode cX6_mixed 36 = .ok (.aload_n 0, 1) := by decide +kernel
theorem dX6_mixed_37 : decode cX6_mixed 37 = .ok (.invokevirtual 192, 3) := by decide +kernel
theorem dX6_mixed_40 : decode cX6_mixed 40 = .ok (.lreturn, 1) := by decide +kernel
theorem dX6_record_0 : decode cX6_record 0 = .ok (.iload_n 1, 1) := by decide +kernel
theorem dX6_record_1 : decode cX6_record 1 = .ok (.iconst 0, 1) := by decide +kernel
theorem dX6_record_2 : decode cX6_record 2 = .ok (.aload_n 0, 1) := by decide +kernel
theorem dX6_record_3 : decode cX6_record 3 = .ok (.getfield 66, 3) := by decide +kernel
theorem dX6_record_6 : decode cX6_record 6 = .ok (.iconst 1, 1) := by decide +kernel
theorem dX6_record_7 : decode cX6_record 7 = .ok (.isub, 1) := by decide +kernel
theorem dX6_record_8 : decode cX6_record 8 = .ok (.invokestatic 62, 3) := by decide +kernel
theorem dX6_record_11 : decode cX6_record 11 = .ok (.istore_n 3, 1) := by decide +kernel
theorem dX6_record_12 : decode cX6_record 12 = .ok (.aload_n 0, 1) := by decide +kernel
theorem dX6_record_13 : decode cX6_record 13 = .ok (.iload_n 3, 1) := by decide +kernel
theorem dX6_record_14 : decode cX6_record 14 = .ok (.ifCond .eq 31, 3) := by decide +kernel
theorem dX6_record_17 : decode cX6_record 17 = .ok (.iload_n 2, 1) := by decide +kernel
theorem dX6_record_18 : decode cX6_record 18 = .ok (.iconst 0, 1) := by decide +kernel
theorem dX6_record_19 : decode cX6_record 19 = .ok (.aload_n 0, 1) := by decide +kernel
theorem dX6_record_20 : decode cX6_record 20 = .ok (.getfield 52, 3) := by decide +kernel
theorem dX6_record_23 : decode cX6_record 23 = .ok (.iload_n 3, 1) := by decide +kernel
theorem dX6_record_24 : decode cX6_record 24 = .ok (.ifCond .eq 7, 3) := by decide +kernel
theorem dX6_record_27 : decode cX6_record 27 = .ok (.iload_n 1, 1) := by decide +kernel
theorem dX6_record_28 : decode cX6_record 28 = .ok (.goto 4, 3) := by decide +kernel
theorem dX6_record_31 : decode cX6_record 31 = .ok (.iconst 0, 1) := by decide +kernel
theorem dX6_record_32 : decode cX6_record 32 = .ok (.iaload, 1) := by decide +kernel
theorem dX6_record_33 : decode cX6_record 33 = .ok (.iconst 1, 1) := by decide +kernel
theorem dX6_record_34 : decode cX6_record 34 = .ok (.isub, 1) := by decide +kernel
theorem dX6_record_35 : decode cX6_record 35 = .ok (.invokestatic 62, 3) := by decide +kernel
theorem dX6_record_38 : decode cX6_record 38 = .ok (.ifCond .eq 7, 3) := by decide +kernel
theorem dX6_record_41 : decode cX6_record 41 = .ok (.iconst 0, 1) := by decide +kernel
theorem dX6_record_42 : decode cX6_record 42 = .ok (.goto 4, 3) := by decide +kernel
theorem dX6_record_45 : decode cX6_record 45 = .ok (.iconst 1, 1) := by decide +kernel
theorem dX6_record_46 : decode cX6_record 46 = .ok (.invokevirtual 84, 3) := by decide +kernel
theorem dX6_record_49 : decode cX6_record 49 = .ok (.ifCond .eq 7, 3) := by decide +kernel
theorem dX6_record_52 : decode cX6_record 52 = .ok (.iconst 0, 1) := by decide +kernel
theorem dX6_record_53 : decode cX6_record 53 = .ok (.goto 24, 3) := by decide +kernel
theorem dX6_record_56 : decode cX6_record 56 = .ok (.aload_n 0, 1) := by decide +kernel
theorem dX6_record_57 : decode cX6_record 57 = .ok (.getfield 55, 3) := by decide +kernel
theorem dX6_record_60 : decode cX6_record 60 = .ok (.sipush 5000, 3) := by decide +kernel
theorem dX6_record_63 : decode cX6_record 63 = .ok (.iload_n 1, 1) := by decide +kernel
theorem dX6_record_64 : decode cX6_record 64 = .ok (.imul, 1) := by decide +kernel
theorem dX6_record_65 : decode cX6_record 65 = .ok (.aload_n 0, 1) := by decide +kernel
theorem dX6_record_66 : decode cX6_record 66 = .ok (.getfield 52, 3) := by decide +kernel
theorem dX6_record_69 : decode cX6_record 69 = .ok (.iload_n 1, 1) := by decide +kernel
theorem dX6_record_70 : decode cX6_record 70 = .ok (.iaload, 1) := by decide +kernel
theorem dX6_record_71 : decode cX6_record 71 = .ok (.iadd, 1) := by decide +kernel
theorem dX6_record_72 : decode cX6_record 72 = .ok (.iconst 1, 1) := by decide +kernel
theorem dX6_record_73 : decode cX6_record 73 = .ok (.isub, 1) := by decide +kernel
theorem dX6_record_74 : decode cX6_record 74 = .ok (.iload_n 2, 1) := by decide +kernel
theorem dX6_record_75 : decode cX6_record 75 = .ok (.isub, 1) := by decide +kernel
theorem dX6_record_76 : decode cX6_record 76 = .ok (.iaload, 1) := by decide +kernel
theorem dX6_record_77 : decode cX6_record 77 = .ok (.ireturn, 1) := by decide +kernel
theorem dX6_beat_0 : decode cX6_beat 0 = .ok (.aload_n 0, 1) := by decide +kernel
theorem dX6_beat_1 : decode cX6_beat 1 = .ok (.iload_n 1, 1) := by decide +kernel
theorem dX6_beat_2 : decode cX6_beat 2 = .ok (.iconst 0, 1) := by decide +kernel
theorem dX6_beat_3 : decode cX6_beat 3 = .ok (.aload_n 0, 1) := by decide +kernel
theorem dX6_beat_4 : decode cX6_beat 4 = .ok (.getfield 66, 3) := by decide +kernel
theorem dX6_beat_7 : decode cX6_beat 7 = .ok (.iconst 1, 1) := by decide +kernel
theorem dX6_beat_8 : decode cX6_beat 8 = .ok (.isub, 1) := by decide +kernel
theorem dX6_beat_9 : decode cX6_beat 9 = .ok (.invokestatic 62, 3) := by decide +kernel
theorem dX6_beat_12 : decode cX6_beat 12 = .ok (.ifCond .eq 7, 3) := by decide +kernel
theorem dX6_beat_15 : decode cX6_beat 15 = .ok (.iconst 0, 1) := by decide +kernel
theorem dX6_beat_16 : decode cX6_beat 16 = .ok (.goto 4, 3) := by decide +kernel
theorem dX6_beat_19 : decode cX6_beat 19 = .ok (.iconst 1, 1) := by decide +kernel
theorem dX6_beat_20 : decode cX6_beat 20 = .ok (.invokevirtual 84, 3) := by decide +kernel
theorem dX6_beat_23 : decode cX6_beat 23 = .ok (.ifCond .eq 5, 3) := by decide +kernel
theorem dX6_beat_26 : decode cX6_beat 26 = .ok (.iconst 0, 1) := by decide +kernel
theorem dX6_beat_27 : decode cX6_beat 27 = .ok (.ireturn, 1) := by decide +kernel
theorem dX6_beat_28 : decode cX6_beat 28 = .ok (.iconst 0, 1) := by decide +kernel
theorem dX6_beat_29 : decode cX6_beat 29 = .ok (.istore_n 2, 1) := by decide +kernel
theorem dX6_beat_30 : decode cX6_beat 30 = .ok (.iconst 0, 1) := by decide +kernel
theorem dX6_beat_31 : decode cX6_beat 31 = .ok (.istore_n 3, 1) := by decide +kernel
theorem dX6_beat_32 : decode cX6_beat 32 = .ok (.iconst 0, 1) := by decide +kernel
theorem dX6_beat_33 : decode cX6_beat 33 = .ok (.istore 4, 2) := by decide +kernel
theorem dX6_beat_35 : decode cX6_beat 35 = .ok (.iload 4, 2) := by decide +kernel
theorem dX6_beat_37 : decode cX6_beat 37 = .ok (.aload_n 0, 1) := by decide +kernel
theorem dX6_beat_38 : decode cX6_beat 38 = .ok (.getfield 52, 3) := by decide +kernel
theorem dX6_beat_41 : decode cX6_beat 41 = .ok (.iload_n 1, 1) := by decide +kernel
theorem dX6_beat_42 : decode cX6_beat 42 = .ok (.iaload, 1) := by decide +kernel
theorem dX6_beat_43 : decode cX6_beat 43 = .ok (.if_icmp .ge 51, 3) := by decide +kernel
theorem dX6_beat_46 : decode cX6_beat 46 = .ok (.aload_n 0, 1) := by decide +kernel
theorem dX6_beat_47 : decode cX6_beat 47 = .ok (.getfield 55, 3) := by decide +kernel
theorem dX6_beat_50 : decode cX6_beat 50 = .ok (.sipush 5000, 3) := by decide +kernel
theorem dX6_beat_53 : decode cX6_beat 53 = .ok (.iload_n 1, 1) := by decide +kernel
theorem dX6_beat_54 : decode cX6_beat 54 = .ok (.imul, 1) := by decide +kernel
theorem dX6_beat_55 : decode cX6_beat 55 = .ok (.iload 4, 2) := by decide +kernel
theorem dX6_beat_57 : decode cX6_beat 57 = .ok (.iadd, 1) := by decide +kernel
theorem dX6_beat_58 : decode cX6_beat 58 = .ok (.iaload, 1) := by decide +kernel
theorem dX6_beat_59 : decode cX6_beat 59 = .ok (.istore 5, 2) := by decide +kernel
theorem dX6_beat_61 : decode cX6_beat 61 = .ok (.iload_n 2, 1) := by decide +kernel
theorem dX6_beat_62 : decode cX6_beat 62 = .ok (.iload 5, 2) := by decide +kernel
theorem dX6_beat_64 : decode cX6_beat 64 = .ok (.iload_n 3, 1) := by decide +kernel
theorem dX6_beat_65 : decode cX6_beat 65 = .ok (.imul, 1) := by decide +kernel
theorem dX6_beat_66 : decode cX6_beat 66 = .ok (.ifCond .ge 7, 3) := by decide +kernel
theorem dX6_beat_69 : decode cX6_beat 69 = .ok (.iconst 1, 1) := by decide +kernel
theorem dX6_beat_70 : decode cX6_beat 70 = .ok (.goto 4, 3) := by decide +kernel
theorem dX6_beat_73 : decode cX6_beat 73 = .ok (.iconst 0, 1) := by decide +kernel
theorem dX6_beat_74 : decode cX6_beat 74 = .ok (.iadd, 1) := by decide +kernel
theorem dX6_beat_75 : decode cX6_beat 75 = .ok (.istore_n 2, 1) := by decide +kernel
theorem dX6_beat_76 : decode cX6_beat 76 = .ok (.iload 5, 2) := by decide +kernel
theorem dX6_beat_78 : decode cX6_beat 78 = .ok (.ifCond .ne 7, 3) := by decide +kernel
theorem dX6_beat_81 : decode cX6_beat 81 = .ok (.iload_n 3, 1) := by decide +kernel
theorem dX6_beat_82 : decode cX6_beat 82 = .ok (.goto 5, 3) := by decide +kernel
theorem dX6_beat_85 : decode cX6_beat 85 = .ok (.iload 5, 2) := by decide +kernel
theorem dX6_beat_87 : decode cX6_beat 87 = .ok (.istore_n 3, 1) := by decide +kernel
theorem dX6_beat_88 : decode cX6_beat 88 = .ok (.iinc 4 1, 3) := by decide +kernel
theorem dX6_beat_91 : decode cX6_beat 91 = .ok (.goto (-56), 3) := by decide +kernel
theorem dX6_beat_94 : decode cX6_beat 94 = .ok (.iload_n 2, 1) := by decide +kernel
theorem dX6_beat_95 : decode cX6_beat 95 = .ok (.ireturn, 1) := by decide +kernel
theorem dX6_pushIn_0 : decode cX6_pushIn 0 = .ok (.aload_n 0, 1) := by decide +kernel
theorem dX6_pushIn_1 : decode cX6_pushIn 1 = .ok (.invokevirtual 180, 3) := by decide +kernel
theorem dX6_pushIn_4 : decode cX6_pushIn 4 = .ok (.iconst 0, 1) := by decide +kernel
theorem dX6_pushIn_5 : decode cX6_pushIn 5 = .ok (.istore_n 3, 1) := by decide +kernel
theorem dX6_pushIn_6 : decode cX6_pushIn 6 = .ok (.iconst 0, 1) := by decide +kernel
theorem dX6_pushIn_7 : decode cX6_pushIn 7 = .ok (.istore 4, 2) := by decide +kernel
theorem dX6_pushIn_9 : decode cX6_pushIn 9 = .ok (.iload 4, 2) := by decide +kernel
theorem dX6_pushIn_11 : decode cX6_pushIn 11 = .ok (.iload_n 2, 1) := by decide +kernel
theorem dX6_pushIn_12 : decode cX6_pushIn 12 = .ok (.if_icmp .ge 34, 3) := by decide +kernel
theorem dX6_pushIn_15 : decode cX6_pushIn 15 = .ok (.aload_n 0, 1) := by decide +kernel
theorem dX6_pushIn_16 : decode cX6_pushIn 16 = .ok (.aload_n 0, 1) := by decide +kernel
theorem dX6_pushIn_17 : decode cX6_pushIn 17 = .ok (.getfield 28, 3) := by decide +kernel
theorem dX6_pushIn_20 : decode cX6_pushIn 20 = .ok (.aload_n 0, 1) := by decide +kernel
theorem dX6_pushIn_21 : decode cX6_pushIn 21 = .ok (.getfield 31, 3) := by decide +kernel
theorem dX6_pushIn_24 : decode cX6_pushIn 24 = .ok (.invokevirtual 130, 3) := by decide +kernel
theorem dX6_pushIn_27 : decode cX6_pushIn 27 = .ok (.iload_n 3, 1) := by decide +kernel
theorem dX6_pushIn_28 : decode cX6_pushIn 28 = .ok (.aload_n 0, 1) := by decide +kernel
theorem dX6_pushIn_29 : decode cX6_pushIn 29 = .ok (.getfield 46, 3) := by decide +kernel
theorem dX6_pushIn_32 : decode cX6_pushIn 32 = .ok (.iconst 3, 1) := by decide +kernel
theorem dX6_pushIn_33 : decode cX6_pushIn 33 = .ok (.iload_n 1, 1) := by decide +kernel
theorem dX6_pushIn_34 : decode cX6_pushIn 34 = .ok (.imul, 1) := by decide +kernel
theorem dX6_pushIn_35 : decode cX6_pushIn 35 = .ok (.iconst 1, 1) := by decide +kernel
theorem dX6_pushIn_36 : decode cX6_pushIn 36 = .ok (.iadd, 1) := by decide +kernel
theorem dX6_pushIn_37 : decode cX6_pushIn 37 = .ok (.iaload, 1) := by decide +kernel
theorem dX6_pushIn_38 : decode cX6_pushIn 38 = .ok (.iadd, 1) := by decide +kernel
theorem dX6_pushIn_39 : decode cX6_pushIn 39 = .ok (.istore_n 3, 1) := by decide +kernel
theorem dX6_pushIn_40 : decode cX6_pushIn 40 = .ok (.iinc 4 1, 3) := by decide +kernel
theorem dX6_pushIn_43 : decode cX6_pushIn 43 = .ok (.goto (-34), 3) := by decide +kernel
theorem dX6_pushIn_46 : decode cX6_pushIn 46 = .ok (.iload_n 3, 1) := by decide +kernel
theorem dX6_pushIn_47 : decode cX6_pushIn 47 = .ok (.ireturn, 1) := by decide +kernel
theorem dX6_better_0 : decode cX6_better 0 = .ok (.aload_n 0, 1) := by decide +kernel
theorem dX6_better_1 : decode cX6_better 1 = .ok (.iload_n 1, 1) := by decide +kernel
theorem dX6_better_2 : decode cX6_better 2 = .ok (.iconst 0, 1) := by decide +kernel
theorem dX6_better_3 : decode cX6_better 3 = .ok (.iconst 3, 1) := by decide +kernel
theorem dX6_better_4 : decode cX6_better 4 = .ok (.invokestatic 62, 3) := by decide +kernel
theorem dX6_better_7 : decode cX6_better 7 = .ok (.ifCond .ne 7, 3) := by decide +kernel
theorem dX6_better_10 : decode cX6_better 10 = .ok (.iconst 1, 1) := by decide +kernel
theorem dX6_better_11 : decode cX6_better 11 = .ok (.goto 18, 3) := by decide +kernel
theorem dX6_better_14 : decode cX6_better 14 = .ok (.iload_n 2, 1) := by decide +kernel
theorem dX6_better_15 : decode cX6_better 15 = .ok (.iconst 1, 1) := by decide +kernel
theorem dX6_better_16 : decode cX6_better 16 = .ok (.bipush 10, 2) := by decide +kernel
theorem dX6_better_18 : decode cX6_better 18 = .ok (.invokestatic 62, 3) := by decide +kernel
theorem dX6_better_21 : decode cX6_better 21 = .ok (.ifCond .ne 7, 3) := by decide +kernel
theorem dX6_better_24 : decode cX6_better 24 = .ok (.iconst 2, 1) := by decide +kernel
theorem dX6_better_25 : decode cX6_better 25 = .ok (.goto 4, 3) := by decide +kernel
theorem dX6_better_28 : decode cX6_better 28 = .ok (.iconst 0, 1) := by decide +kernel
theorem dX6_better_29 : decode cX6_better 29 = .ok (.invokevirtual 84, 3) := by decide +kernel
theorem dX6_better_32 : decode cX6_better 32 = .ok (.ifCond .eq 5, 3) := by decide +kernel
theorem dX6_better_35 : decode cX6_better 35 = .ok (.iconst 0, 1) := by decide +kernel
theorem dX6_better_36 : decode cX6_better 36 = .ok (.ireturn, 1) := by decide +kernel
theorem dX6_better_37 : decode cX6_better 37 = .ok (.aload_n 0, 1) := by decide +kernel
theorem dX6_better_38 : decode cX6_better 38 = .ok (.iload_n 1, 1) := by decide +kernel
theorem dX6_better_39 : decode cX6_better 39 = .ok (.iload_n 2, 1) := by decide +kernel
theorem dX6_better_40 : decode cX6_better 40 = .ok (.invokevirtual 195, 3) := by decide +kernel
theorem dX6_better_43 : decode cX6_better 43 = .ok (.istore_n 3, 1) := by decide +kernel
theorem dX6_better_44 : decode cX6_better 44 = .ok (.iconst (-1), 1) := by decide +kernel
theorem dX6_better_45 : decode cX6_better 45 = .ok (.istore 4, 2) := by decide +kernel
theorem dX6_better_47 : decode cX6_better 47 = .ok (.iconst 0, 1) := by decide +kernel
theorem dX6_better_48 : decode cX6_better 48 = .ok (.istore 5, 2) := by decide +kernel
theorem dX6_better_50 : decode cX6_better 50 = .ok (.iload 5, 2) := by decide +kernel
theorem dX6_better_52 : decode cX6_better 52 = .ok (.bipush 96, 2) := by decide +kernel
theorem dX6_better_54 : decode cX6_better 54 = .ok (.if_icmp .ge 88, 3) := by decide +kernel
theorem dX6_better_57 : decode cX6_better 57 = .ok (.aload_n 0, 1) := by decide +kernel
theorem dX6_better_58 : decode cX6_better 58 = .ok (.getfield 13, 3) := by decide +kernel
theorem dX6_better_61 : decode cX6_better 61 = .ok (.iload 5, 2) := by decide +kernel
theorem dX6_better_63 : decode cX6_better 63 = .ok (.iaload, 1) := by decide +kernel
theorem dX6_better_64 : decode cX6_better 64 = .ok (.iload_n 1, 1) := by decide +kernel
theorem dX6_better_65 : decode cX6_better 65 = .ok (.if_icmp .ne 71, 3) := by decide +kernel
theorem dX6_better_68 : decode cX6_better 68 = .ok (.aload_n 0, 1) := by decide +kernel
theorem dX6_better_69 : decode cX6_better 69 = .ok (.getfield 7, 3) := by decide +kernel
theorem dX6_better_72 : decode cX6_better 72 = .ok (.iload 5, 2) := by decide +kernel
theorem dX6_better_74 : decode cX6_better 74 = .ok (.iconst 0, 1) := by decide +kernel
theorem dX6_better_75 : decode cX6_better 75 = .ok (.iastore, 1) := by decide +kernel
theorem dX6_better_76 : decode cX6_better 76 = .ok (.aload_n 0, 1) := by decide +kernel
theorem dX6_better_77 : decode cX6_better 77 = .ok (.getfield 13, 3) := by decide +kernel
theorem dX6_better_80 : decode cX6_better 80 = .ok (.iload 5, 2) := by decide +kernel
theorem dX6_better_82 : decode cX6_better 82 = .ok (.iconst (-1), 1) := by decide +kernel
theorem dX6_better_83 : decode cX6_better 83 = .ok (.iastore, 1) := by decide +kernel
theorem dX6_better_84 : decode cX6_better 84 = .ok (.aload_n 0, 1) := by decide +kernel
theorem dX6_better_85 : decode cX6_better 85 = .ok (.iload_n 1, 1) := by decide +kernel
theorem dX6_better_86 : decode cX6_better 86 = .ok (.iload_n 2, 1) := by decide +kernel
theorem dX6_better_87 : decode cX6_better 87 = .ok (.invokevirtual 195, 3) := by decide +kernel
theorem dX6_better_90 : decode cX6_better 90 = .ok (.istore 6, 2) := by decide +kernel
theorem dX6_better_92 : decode cX6_better 92 = .ok (.aload_n 0, 1) := by decide +kernel
theorem dX6_better_93 : decode cX6_better 93 = .ok (.getfield 7, 3) := by decide +kernel
theorem dX6_better_96 : decode cX6_better 96 = .ok (.iload 5, 2) := by decide +kernel
theorem dX6_better_98 : decode cX6_better 98 = .ok (.iconst 1, 1) := by decide +kernel
theorem dX6_better_99 : decode cX6_better 99 = .ok (.iastore, 1) := by decide +kernel
theorem dX6_better_100 : decode cX6_better 100 = .ok (.aload_n 0, 1) := by decide +kernel
theorem dX6_better_101 : decode cX6_better 101 = .ok (.getfield 13, 3) := by decide +kernel
theorem dX6_better_104 : decode cX6_better 104 = .ok (.iload 5, 2) := by decide +kernel
theorem dX6_better_106 : decode cX6_better 106 = .ok (.iload_n 1, 1) := by decide +kernel
theorem dX6_better_107 : decode cX6_better 107 = .ok (.iastore, 1) := by decide +kernel
theorem dX6_better_108 : decode cX6_better 108 = .ok (.iload 6, 2) := by decide +kernel
theorem dX6_better_110 : decode cX6_better 110 = .ok (.iload_n 3, 1) := by decide +kernel
theorem dX6_better_111 : decode cX6_better 111 = .ok (.if_icmp .ge 8, 3) := by decide +kernel
theorem dX6_better_114 : decode cX6_better 114 = .ok (.iload 5, 2) := by decide +kernel
theorem dX6_better_116 : decode cX6_better 116 = .ok (.goto 5, 3) := by decide +kernel
theorem dX6_better_119 : decode cX6_better 119 = .ok (.iload 4, 2) := by decide +kernel
theorem dX6_better_121 : decode cX6_better 121 = .ok (.istore 4, 2) := by decide +kernel
theorem dX6_better_123 : decode cX6_better 123 = .ok (.iload 6, 2) := by decide +kernel
theorem dX6_better_125 : decode cX6_better 125 = .ok (.iload_n 3, 1) := by decide +kernel
theorem dX6_better_126 : decode cX6_better 126 = .ok (.if_icmp .ge 8, 3) := by decide +kernel
theorem dX6_better_129 : decode cX6_better 129 = .ok (.iload 6, 2) := by decide +kernel
theorem dX6_better_131 : decode cX6_better 131 = .ok (.goto 4, 3) := by decide +kernel
theorem dX6_better_134 : decode cX6_better 134 = .ok (.iload_n 3, 1) := by decide +kernel
theorem dX6_better_135 : decode cX6_better 135 = .ok (.istore_n 3, 1) := by decide +kernel
theorem dX6_better_136 : decode cX6_better 136 = .ok (.iinc 5 1, 3) := by decide +kernel
theorem dX6_better_139 : decode cX6_better 139 = .ok (.goto (-89), 3) := by decide +kernel
theorem dX6_better_142 : decode cX6_better 142 = .ok (.iload 4, 2) := by decide +kernel
theorem dX6_better_144 : decode cX6_better 144 = .ok (.ireturn, 1) := by decide +kernel
theorem dJ6_bitCount_0f7a4_0 : decode cJ6_bitCount_0f7a4 0 = .ok (.iload_n 0, 1) := by decide +kernel
theorem dJ6_bitCount_0f7a4_1 : decode cJ6_bitCount_0f7a4 1 = .ok (.iload_n 0, 1) := by decide +kernel
theorem dJ6_bitCount_0f7a4_2 : decode cJ6_bitCount_0f7a4 2 = .ok (.iconst 1, 1) := by decide +kernel
theorem dJ6_bitCount_0f7a4_3 : decode cJ6_bitCount_0f7a4 3 = .ok (.iushr, 1) := by decide +kernel
theorem dJ6_bitCount_0f7a4_4 : decode cJ6_bitCount_0f7a4 4 = .ok (.ldc_w 265, 3) := by decide +kernel
theorem dJ6_bitCount_0f7a4_7 : decode cJ6_bitCount_0f7a4 7 = .ok (.iand, 1) := by decide +kernel
theorem dJ6_bitCount_0f7a4_8 : decode cJ6_bitCount_0f7a4 8 = .ok (.isub, 1) := by decide +kernel
theorem dJ6_bitCount_0f7a4_9 : decode cJ6_bitCount_0f7a4 9 = .ok (.istore_n 0, 1) := by decide +kernel
theorem dJ6_bitCount_0f7a4_10 : decode cJ6_bitCount_0f7a4 10 = .ok (.iload_n 0, 1) := by decide +kernel
theorem dJ6_bitCount_0f7a4_11 : decode cJ6_bitCount_0f7a4 11 = .ok (.ldc_w 266, 3) := by decide +kernel
theorem dJ6_bitCount_0f7a4_14 : decode cJ6_bitCount_0f7a4 14 = .ok (.iand, 1) := by decide +kernel
theorem dJ6_bitCount_0f7a4_15 : decode cJ6_bitCount_0f7a4 15 = .ok (.iload_n 0, 1) := by decide +kernel
theorem dJ6_bitCount_0f7a4_16 : decode cJ6_bitCount_0f7a4 16 = .ok (.iconst 2, 1) := by decide +kernel
theorem dJ6_bitCount_0f7a4_17 : decode cJ6_bitCount_0f7a4 17 = .ok (.iushr, 1) := by decide +kernel
theorem dJ6_bitCount_0f7a4_18 : decode cJ6_bitCount_0f7a4 18 = .ok (.ldc_w 266, 3) := by decide +kernel
theorem dJ6_bitCount_0f7a4_21 : decode cJ6_bitCount_0f7a4 21 = .ok (.iand, 1) := by decide +kernel
theorem dJ6_bitCount_0f7a4_22 : decode cJ6_bitCount_0f7a4 22 = .ok (.iadd, 1) := by decide +kernel
theorem dJ6_bitCount_0f7a4_23 : decode cJ6_bitCount_0f7a4 23 = .ok (.istore_n 0, 1) := by decide +kernel
theorem dJ6_bitCount_0f7a4_24 : decode cJ6_bitCount_0f7a4 24 = .ok (.iload_n 0, 1) := by decide +kernel
theorem dJ6_bitCount_0f7a4_25 : decode cJ6_bitCount_0f7a4 25 = .ok (.iload_n 0, 1) := by decide +kernel
theorem dJ6_bitCount_0f7a4_26 : decode cJ6_bitCount_0f7a4 26 = .ok (.iconst 4, 1) := by decide +kernel
theorem dJ6_bitCount_0f7a4_27 : decode cJ6_bitCount_0f7a4 27 = .ok (.iushr, 1) := by decide +kernel
theorem dJ6_bitCount_0f7a4_28 : decode cJ6_bitCount_0f7a4 28 = .ok (.iadd, 1) := by decide +kernel
theorem dJ6_bitCount_0f7a4_29 : decode cJ6_bitCount_0f7a4 29 = .ok (.ldc_w 267, 3) := by decide +kernel
theorem dJ6_bitCount_0f7a4_32 : decode cJ6_bitCount_0f7a4 32 = .ok (.iand, 1) := by decide +kernel
theorem dJ6_bitCount_0f7a4_33 : decode cJ6_bitCount_0f7a4 33 = .ok (.istore_n 0, 1) := by decide +kernel
theorem dJ6_bitCount_0f7a4_34 : decode cJ6_bitCount_0f7a4 34 = .ok (.iload_n 0, 1) := by decide +kernel
theorem dJ6_bitCount_0f7a4_35 : decode cJ6_bitCount_0f7a4 35 = .ok (.iload_n 0, 1) := by decide +kernel
theorem dJ6_bitCount_0f7a4_36 : decode cJ6_bitCount_0f7a4 36 = .ok (.bipush 8, 2) := by decide +kernel
theorem dJ6_bitCount_0f7a4_38 : decode cJ6_bitCount_0f7a4 38 = .ok (.iushr, 1) := by decide +kernel
theorem dJ6_bitCount_0f7a4_39 : decode cJ6_bitCount_0f7a4 39 = .ok (.iadd, 1) := by decide +kernel
theorem dJ6_bitCount_0f7a4_40 : decode cJ6_bitCount_0f7a4 40 = .ok (.istore_n 0, 1) := by decide +kernel
theorem dJ6_bitCount_0f7a4_41 : decode cJ6_bitCount_0f7a4 41 = .ok (.iload_n 0, 1) := by decide +kernel
theorem dJ6_bitCount_0f7a4_42 : decode cJ6_bitCount_0f7a4 42 = .ok (.iload_n 0, 1) := by decide +kernel
theorem dJ6_bitCount_0f7a4_43 : decode cJ6_bitCount_0f7a4 43 = .ok (.bipush 16, 2) := by decide +kernel
theorem dJ6_bitCount_0f7a4_45 : decode cJ6_bitCount_0f7a4 45 = .ok (.iushr, 1) := by decide +kernel
theorem dJ6_bitCount_0f7a4_46 : decode cJ6_bitCount_0f7a4 46 = .ok (.iadd, 1) := by decide +kernel
theorem dJ6_bitCount_0f7a4_47 : decode cJ6_bitCount_0f7a4 47 = .ok (.istore_n 0, 1) := by decide +kernel
theorem dJ6_bitCount_0f7a4_48 : decode cJ6_bitCount_0f7a4 48 = .ok (.iload_n 0, 1) := by decide +kernel
theorem dJ6_bitCount_0f7a4_49 : decode cJ6_bitCount_0f7a4 49 = .ok (.bipush 63, 2) := by decide +kernel
theorem dJ6_bitCount_0f7a4_51 : decode cJ6_bitCount_0f7a4 51 = .ok (.iand, 1) := by decide +kernel
theorem dJ6_bitCount_0f7a4_52 : decode cJ6_bitCount_0f7a4 52 = .ok (.ireturn, 1) := by decide +kernel
theorem dJ9_floorDiv_f86c9_0 : decode cJ9_floorDiv_f86c9 0 = .ok (.lload_n 0, 1) := by decide +kernel
theorem dJ9_floorDiv_f86c9_1 : decode cJ9_floorDiv_f86c9 1 = .ok (.lload_n 2, 1) := by decide +kernel
theorem dJ9_floorDiv_f86c9_2 : decode cJ9_floorDiv_f86c9 2 = .ok (.ldiv, 1) := by decide +kernel
theorem dJ9_floorDiv_f86c9_3 : decode cJ9_floorDiv_f86c9 3 = .ok (.lstore 4, 2) := by decide +kernel
theorem dJ9_floorDiv_f86c9_5 : decode cJ9_floorDiv_f86c9 5 = .ok (.lload_n 0, 1) := by decide +kernel
theorem dJ9_floorDiv_f86c9_6 : decode cJ9_floorDiv_f86c9 6 = .ok (.lload_n 2, 1) := by decide +kernel
theorem dJ9_floorDiv_f86c9_7 : decode cJ9_floorDiv_f86c9 7 = .ok (.lxor, 1) := by decide +kernel
theorem dJ9_floorDiv_f86c9_8 : decode cJ9_floorDiv_f86c9 8 = .ok (.lconst 0, 1) := by decide +kernel
theorem dJ9_floorDiv_f86c9_9 : decode cJ9_floorDiv_f86c9 9 = .ok (.lcmp, 1) := by decide +kernel
theorem dJ9_floorDiv_f86c9_10 : decode cJ9_floorDiv_f86c9 10 = .ok (.ifCond .ge 17, 3) := by decide +kernel
theorem dJ9_floorDiv_f86c9_13 : decode cJ9_floorDiv_f86c9 13 = .ok (.lload 4, 2) := by decide +kernel
theorem dJ9_floorDiv_f86c9_15 : decode cJ9_floorDiv_f86c9 15 = .ok (.lload_n 2, 1) := by decide +kernel
theorem dJ9_floorDiv_f86c9_16 : decode cJ9_floorDiv_f86c9 16 = .ok (.lmul, 1) := by decide +kernel
theorem dJ9_floorDiv_f86c9_17 : decode cJ9_floorDiv_f86c9 17 = .ok (.lload_n 0, 1) := by decide +kernel
theorem dJ9_floorDiv_f86c9_18 : decode cJ9_floorDiv_f86c9 18 = .ok (.lcmp, 1) := by decide +kernel
theorem dJ9_floorDiv_f86c9_19 : decode cJ9_floorDiv_f86c9 19 = .ok (.ifCond .eq 8, 3) := by decide +kernel
theorem dJ9_floorDiv_f86c9_22 : decode cJ9_floorDiv_f86c9 22 = .ok (.lload 4, 2) := by decide +kernel
theorem dJ9_floorDiv_f86c9_24 : decode cJ9_floorDiv_f86c9 24 = .ok (.lconst 1, 1) := by decide +kernel
theorem dJ9_floorDiv_f86c9_25 : decode cJ9_floorDiv_f86c9 25 = .ok (.lsub, 1) := by decide +kernel
theorem dJ9_floorDiv_f86c9_26 : decode cJ9_floorDiv_f86c9 26 = .ok (.lreturn, 1) := by decide +kernel
theorem dJ9_floorDiv_f86c9_27 : decode cJ9_floorDiv_f86c9 27 = .ok (.lload 4, 2) := by decide +kernel
theorem dJ9_floorDiv_f86c9_29 : decode cJ9_floorDiv_f86c9 29 = .ok (.lreturn, 1) := by decide +kernel
theorem dJ9_floorMod_7cf53_0 : decode cJ9_floorMod_7cf53 0 = .ok (.iload_n 0, 1) := by decide +kernel
theorem dJ9_floorMod_7cf53_1 : decode cJ9_floorMod_7cf53 1 = .ok (.iload_n 1, 1) := by decide +kernel
theorem dJ9_floorMod_7cf53_2 : decode cJ9_floorMod_7cf53 2 = .ok (.irem, 1) := by decide +kernel
theorem dJ9_floorMod_7cf53_3 : decode cJ9_floorMod_7cf53 3 = .ok (.istore_n 2, 1) := by decide +kernel
theorem dJ9_floorMod_7cf53_4 : decode cJ9_floorMod_7cf53 4 = .ok (.iload_n 0, 1) := by decide +kernel
theorem dJ9_floorMod_7cf53_5 : decode cJ9_floorMod_7cf53 5 = .ok (.iload_n 1, 1) := by decide +kernel
theorem dJ9_floorMod_7cf53_6 : decode cJ9_floorMod_7cf53 6 = .ok (.ixor, 1) := by decide +kernel
theorem dJ9_floorMod_7cf53_7 : decode cJ9_floorMod_7cf53 7 = .ok (.ifCond .ge 11, 3) := by decide +kernel
theorem dJ9_floorMod_7cf53_10 : decode cJ9_floorMod_7cf53 10 = .ok (.iload_n 2, 1) := by decide +kernel
theorem dJ9_floorMod_7cf53_11 : decode cJ9_floorMod_7cf53 11 = .ok (.ifCond .eq 7, 3) := by decide +kernel
theorem dJ9_floorMod_7cf53_14 : decode cJ9_floorMod_7cf53 14 = .ok (.iload_n 2, 1) := by decide +kernel
theorem dJ9_floorMod_7cf53_15 : decode cJ9_floorMod_7cf53 15 = .ok (.iload_n 1, 1) := by decide +kernel
theorem dJ9_floorMod_7cf53_16 : decode cJ9_floorMod_7cf53 16 = .ok (.iadd, 1) := by decide +kernel
theorem dJ9_floorMod_7cf53_17 : decode cJ9_floorMod_7cf53 17 = .ok (.ireturn, 1) := by decide +kernel
theorem dJ9_floorMod_7cf53_18 : decode cJ9_floorMod_7cf53 18 = .ok (.iload_n 2, 1) := by decide +kernel
theorem dJ9_floorMod_7cf53_19 : decode cJ9_floorMod_7cf53 19 = .ok (.ireturn, 1) := by decide +kernel
theorem dJ9_abs_067f4_0 : decode cJ9_abs_067f4 0 = .ok (.lload_n 0, 1) := by decide +kernel
theorem dJ9_abs_067f4_1 : decode cJ9_abs_067f4 1 = .ok (.lconst 0, 1) := by decide +kernel
theorem dJ9_abs_067f4_2 : decode cJ9_abs_067f4 2 = .ok (.lcmp, 1) := by decide +kernel
theorem dJ9_abs_067f4_3 : decode cJ9_abs_067f4 3 = .ok (.ifCond .ge 8, 3) := by decide +kernel
theorem dJ9_abs_067f4_6 : decode cJ9_abs_067f4 6 = .ok (.lload_n 0, 1) := by decide +kernel
theorem dJ9_abs_067f4_7 : decode cJ9_abs_067f4 7 = .ok (.lneg, 1) := by decide +kernel
theorem dJ9_abs_067f4_8 : decode cJ9_abs_067f4 8 = .ok (.goto 4, 3) := by decide +kernel
theorem dJ9_abs_067f4_11 : decode cJ9_abs_067f4 11 = .ok (.lload_n 0, 1) := by decide +kernel
theorem dJ9_abs_067f4_12 : decode cJ9_abs_067f4 12 = .ok (.lreturn, 1) := by decide +kernel
theorem dJ9_min_7cf53_0 : decode cJ9_min_7cf53 0 = .ok (.iload_n 0, 1) := by decide +kernel
theorem dJ9_min_7cf53_1 : decode cJ9_min_7cf53 1 = .ok (.iload_n 1, 1) := by decide +kernel
theorem dJ9_min_7cf53_2 : decode cJ9_min_7cf53 2 = .ok (.if_icmp .gt 7, 3) := by decide +kernel
theorem dJ9_min_7cf53_5 : decode cJ9_min_7cf53 5 = .ok (.iload_n 0, 1) := by decide +kernel
theorem dJ9_min_7cf53_6 : decode cJ9_min_7cf53 6 = .ok (.goto 4, 3) := by decide +kernel
theorem dJ9_min_7cf53_9 : decode cJ9_min_7cf53 9 = .ok (.iload_n 1, 1) := by decide +kernel
theorem dJ9_min_7cf53_10 : decode cJ9_min_7cf53 10 = .ok (.ireturn, 1) := by decide +kernel
theorem dJ7_fill_53178_0 : decode cJ7_fill_53178 0 = .ok (.iconst 0, 1) := by decide +kernel
theorem dJ7_fill_53178_1 : decode cJ7_fill_53178 1 = .ok (.istore_n 2, 1) := by decide +kernel
theorem dJ7_fill_53178_2 : decode cJ7_fill_53178 2 = .ok (.aload_n 0, 1) := by decide +kernel
theorem dJ7_fill_53178_3 : decode cJ7_fill_53178 3 = .ok (.arraylength, 1) := by decide +kernel
theorem dJ7_fill_53178_4 : decode cJ7_fill_53178 4 = .ok (.istore_n 3, 1) := by decide +kernel
theorem dJ7_fill_53178_5 : decode cJ7_fill_53178 5 = .ok (.iload_n 2, 1) := by decide +kernel
theorem dJ7_fill_53178_6 : decode cJ7_fill_53178 6 = .ok (.iload_n 3, 1) := by decide +kernel
theorem dJ7_fill_53178_7 : decode cJ7_fill_53178 7 = .ok (.if_icmp .ge 13, 3) := by decide +kernel
theorem dJ7_fill_53178_10 : decode cJ7_fill_53178 10 = .ok (.aload_n 0, 1) := by decide +kernel
theorem dJ7_fill_53178_11 : decode cJ7_fill_53178 11 = .ok (.iload_n 2, 1) := by decide +kernel
theorem dJ7_fill_53178_12 : decode cJ7_fill_53178 12 = .ok (.iload_n 1, 1) := by decide +kernel
theorem dJ7_fill_53178_13 : decode cJ7_fill_53178 13 = .ok (.iastore, 1) := by decide +kernel
theorem dJ7_fill_53178_14 : decode cJ7_fill_53178 14 = .ok (.iinc 2 1, 3) := by decide +kernel
theorem dJ7_fill_53178_17 : decode cJ7_fill_53178 17 = .ok (.goto (-12), 3) := by decide +kernel
theorem dJ7_fill_53178_20 : decode cJ7_fill_53178 20 = .ok (.return_, 1) := by decide +kernel
theorem dL_wall_0 : decode cL_wall 0 = .ok (.aload_n 0, 1) := by decide +kernel
theorem dL_wall_1 : decode cL_wall 1 = .ok (.iload_n 1, 1) := by decide +kernel
theorem dL_wall_2 : decode cL_wall 2 = .ok (.iload_n 2, 1) := by decide +kernel
theorem dL_wall_3 : decode cL_wall 3 = .ok (.invokevirtual 7, 3) := by decide +kernel
theorem dL_wall_6 : decode cL_wall 6 = .ok (.goto 9, 3) := by decide +kernel
theorem dL_wall_9 : decode cL_wall 9 = .ok (.astore_n 3, 1) := by decide +kernel
theorem dL_wall_10 : decode cL_wall 10 = .ok (.iconst 1, 1) := by decide +kernel
theorem dL_wall_11 : decode cL_wall 11 = .ok (.ireturn, 1) := by decide +kernel
theorem dL_wall_12 : decode cL_wall 12 = .ok (.astore_n 3, 1) := by decide +kernel
theorem dL_wall_13 : decode cL_wall 13 = .ok (.iconst 2, 1) := by decide +kernel
theorem dL_wall_14 : decode cL_wall 14 = .ok (.ireturn, 1) := by decide +kernel
theorem dL_wall_15 : decode cL_wall 15 = .ok (.iconst 0, 1) := by decide +kernel
theorem dL_wall_16 : decode cL_wall 16 = .ok (.ireturn, 1) := by decide +kernel
theorem dL_clear_0 : decode cL_clear 0 = .ok (.aload_n 2, 1) := by decide +kernel
theorem dL_clear_1 : decode cL_clear 1 = .ok (.iconst 0, 1) := by decide +kernel
theorem dL_clear_2 : decode cL_clear 2 = .ok (.aload_n 0, 1) := by decide +kernel
theorem dL_clear_3 : decode cL_clear 3 = .ok (.iload_n 1, 1) := by decide +kernel
theorem dL_clear_4 : decode cL_clear 4 = .ok (.invokevirtual 17, 3) := by decide +kernel
theorem dL_clear_7 : decode cL_clear 7 = .ok (.i2l, 1) := by decide +kernel
theorem dL_clear_8 : decode cL_clear 8 = .ok (.lastore, 1) := by decide +kernel
theorem dL_clear_9 : decode cL_clear 9 = .ok (.goto 6, 3) := by decide +kernel
theorem dL_clear_12 : decode cL_clear 12 = .ok (.astore_n 3, 1) := by decide +kernel
theorem dL_clear_13 : decode cL_clear 13 = .ok (.iconst 1, 1) := by decide +kernel
theorem dL_clear_14 : decode cL_clear 14 = .ok (.ireturn, 1) := by decide +kernel
theorem dL_clear_15 : decode cL_clear 15 = .ok (.iconst 0, 1) := by decide +kernel
theorem dL_clear_16 : decode cL_clear 16 = .ok (.ireturn, 1) := by decide +kernel
theorem dL_open_0 : decode cL_open 0 = .ok (.aload_n 0, 1) := by decide +kernel
theorem dL_open_1 : decode cL_open 1 = .ok (.iload_n 1, 1) := by decide +kernel
theorem dL_open_2 : decode cL_open 2 = .ok (.iload_n 2, 1) := by decide +kernel
theorem dL_open_3 : decode cL_open 3 = .ok (.invokevirtual 21, 3) := by decide +kernel
theorem dL_open_6 : decode cL_open 6 = .ok (.goto 12, 3) := by decide +kernel
theorem dL_open_9 : decode cL_open 9 = .ok (.astore_n 3, 1) := by decide +kernel
theorem dL_open_10 : decode cL_open 10 = .ok (.iconst 1, 1) := by decide +kernel
theorem dL_open_11 : decode cL_open 11 = .ok (.ireturn, 1) := by decide +kernel
theorem dL_open_12 : decode cL_open 12 = .ok (.astore_n 3, 1) := by decide +kernel
theorem dL_open_13 : decode cL_open 13 = .ok (.iconst 2, 1) := by decide +kernel
theorem dL_open_14 : decode cL_open 14 = .ok (.ireturn, 1) := by decide +kernel
theorem dL_open_15 : decode cL_open 15 = .ok (.astore_n 3, 1) := by decide +kernel
theorem dL_open_16 : decode cL_open 16 = .ok (.iconst 3, 1) := by decide +kernel
theorem dL_open_17 : decode cL_open 17 = .ok (.ireturn, 1) := by decide +kernel
theorem dL_open_18 : decode cL_open 18 = .ok (.iconst 0, 1) := by decide +kernel
theorem dL_open_19 : decode cL_open 19 = .ok (.ireturn, 1) := by decide +kernel
theorem dL_particle_0 : decode cL_particle 0 = .ok (.aload_n 3, 1) := by decide +kernel
theorem dL_particle_1 : decode cL_particle 1 = .ok (.iconst 0, 1) := by decide +kernel
theorem dL_particle_2 : decode cL_particle 2 = .ok (.aload_n 0, 1) := by decide +kernel
theorem dL_particle_3 : decode cL_particle 3 = .ok (.iload_n 1, 1) := by decide +kernel
theorem dL_particle_4 : decode cL_particle 4 = .ok (.iload_n 2, 1) := by decide +kernel
theorem dL_particle_5 : decode cL_particle 5 = .ok (.invokevirtual 26, 3) := by decide +kernel
theorem dL_particle_8 : decode cL_particle 8 = .ok (.i2l, 1) := by decide +kernel
theorem dL_particle_9 : decode cL_particle 9 = .ok (.lastore, 1) := by decide +kernel
theorem dL_particle_10 : decode cL_particle 10 = .ok (.goto 15, 3) := by decide +kernel
theorem dL_particle_13 : decode cL_particle 13 = .ok (.astore 4, 2) := by decide +kernel
theorem dL_particle_15 : decode cL_particle 15 = .ok (.iconst 1, 1) := by decide +kernel
theorem dL_particle_16 : decode cL_particle 16 = .ok (.ireturn, 1) := by decide +kernel
theorem dL_particle_17 : decode cL_particle 17 = .ok (.astore 4, 2) := by decide +kernel
theorem dL_particle_19 : decode cL_particle 19 = .ok (.iconst 2, 1) := by decide +kernel
theorem dL_particle_20 : decode cL_particle 20 = .ok (.ireturn, 1) := by decide +kernel
theorem dL_particle_21 : decode cL_particle 21 = .ok (.astore 4, 2) := by decide +kernel
theorem dL_particle_23 : decode cL_particle 23 = .ok (.iconst 3, 1) := by decide +kernel
theorem dL_particle_24 : decode cL_particle 24 = .ok (.ireturn, 1) := by decide +kernel
theorem dL_particle_25 : decode cL_particle 25 = .ok (.iconst 0, 1) := by decide +kernel
theorem dL_particle_26 : decode cL_particle 26 = .ok (.ireturn, 1) := by decide +kernel
theorem dL_ink_0 : decode cL_ink 0 = .ok (.aload_n 2, 1) := by decide +kernel
theorem dL_ink_1 : decode cL_ink 1 = .ok (.iconst 0, 1) := by decide +kernel
theorem dL_ink_2 : decode cL_ink 2 = .ok (.aload_n 0, 1) := by decide +kernel
theorem dL_ink_3 : decode cL_ink 3 = .ok (.iload_n 1, 1) := by decide +kernel
theorem dL_ink_4 : decode cL_ink 4 = .ok (.invokevirtual 30, 3) := by decide +kernel
theorem dL_ink_7 : decode cL_ink 7 = .ok (.i2l, 1) := by decide +kernel
theorem dL_ink_8 : decode cL_ink 8 = .ok (.lastore, 1) := by decide +kernel
theorem dL_ink_9 : decode cL_ink 9 = .ok (.goto 6, 3) := by decide +kernel
theorem dL_ink_12 : decode cL_ink 12 = .ok (.astore_n 3, 1) := by decide +kernel
theorem dL_ink_13 : decode cL_ink 13 = .ok (.iconst 1, 1) := by decide +kernel
theorem dL_ink_14 : decode cL_ink 14 = .ok (.ireturn, 1) := by decide +kernel
theorem dL_ink_15 : decode cL_ink 15 = .ok (.iconst 0, 1) := by decide +kernel
theorem dL_ink_16 : decode cL_ink 16 = .ok (.ireturn, 1) := by decide +kernel
theorem dL_probe_0 : decode cL_probe 0 = .ok (.aload_n 2, 1) := by decide +kernel
theorem dL_probe_1 : decode cL_probe 1 = .ok (.iconst 0, 1) := by decide +kernel
theorem dL_probe_2 : decode cL_probe 2 = .ok (.aload_n 0, 1) := by decide +kernel
theorem dL_probe_3 : decode cL_probe 3 = .ok (.iload_n 1, 1) := by decide +kernel
theorem dL_probe_4 : decode cL_probe 4 = .ok (.invokevirtual 33, 3) := by decide +kernel
theorem dL_probe_7 : decode cL_probe 7 = .ok (.i2l, 1) := by decide +kernel
theorem dL_probe_8 : decode cL_probe 8 = .ok (.lastore, 1) := by decide +kernel
theorem dL_probe_9 : decode cL_probe 9 = .ok (.goto 9, 3) := by decide +kernel
theorem dL_probe_12 : decode cL_probe 12 = .ok (.astore_n 3, 1) := by decide +kernel
theorem dL_probe_13 : decode cL_probe 13 = .ok (.iconst 1, 1) := by decide +kernel
theorem dL_probe_14 : decode cL_probe 14 = .ok (.ireturn, 1) := by decide +kernel
theorem dL_probe_15 : decode cL_probe 15 = .ok (.astore_n 3, 1) := by decide +kernel
theorem dL_probe_16 : decode cL_probe 16 = .ok (.iconst 2, 1) := by decide +kernel
theorem dL_probe_17 : decode cL_probe 17 = .ok (.ireturn, 1) := by decide +kernel
theorem dL_probe_18 : decode cL_probe 18 = .ok (.iconst 0, 1) := by decide +kernel
theorem dL_probe_19 : decode cL_probe 19 = .ok (.ireturn, 1) := by decide +kernel
theorem dL_fault_0 : decode cL_fault 0 = .ok (.aload_n 3, 1) := by decide +kernel
theorem dL_fault_1 : decode cL_fault 1 = .ok (.iconst 0, 1) := by decide +kernel
theorem dL_fault_2 : decode cL_fault 2 = .ok (.aload_n 0, 1) := by decide +kernel
theorem dL_fault_3 : decode cL_fault 3 = .ok (.iload_n 1, 1) := by decide +kernel
theorem dL_fault_4 : decode cL_fault 4 = .ok (.iload_n 2, 1) := by decide +kernel
theorem dL_fault_5 : decode cL_fault 5 = .ok (.invokevirtual 36, 3) := by decide +kernel
theorem dL_fault_8 : decode cL_fault 8 = .ok (.i2l, 1) := by decide +kernel
theorem dL_fault_9 : decode cL_fault 9 = .ok (.lastore, 1) := by decide +kernel
theorem dL_fault_10 : decode cL_fault 10 = .ok (.goto 11, 3) := by decide +kernel
theorem dL_fault_13 : decode cL_fault 13 = .ok (.astore 4, 2) := by decide +kernel
theorem dL_fault_15 : decode cL_fault 15 = .ok (.iconst 1, 1) := by decide +kernel
theorem dL_fault_16 : decode cL_fault 16 = .ok (.ireturn, 1) := by decide +kernel
theorem dL_fault_17 : decode cL_fault 17 = .ok (.astore 4, 2) := by decide +kernel
theorem dL_fault_19 : decode cL_fault 19 = .ok (.iconst 2, 1) := by decide +kernel
theorem dL_fault_20 : decode cL_fault 20 = .ok (.ireturn, 1) := by decide +kernel
theorem dL_fault_21 : decode cL_fault 21 = .ok (.iconst 0, 1) := by decide +kernel
theorem dL_fault_22 : decode cL_fault 22 = .ok (.ireturn, 1) := by decide +kernel
theorem dL_bring_0 : decode cL_bring 0 = .ok (.aload 4, 2) := by decide +kernel
theorem dL_bring_2 : decode cL_bring 2 = .ok (.iconst 0, 1) := by decide +kernel
theorem dL_bring_3 : decode cL_bring 3 = .ok (.aload_n 0, 1) := by decide +kernel
theorem dL_bring_4 : decode cL_bring 4 = .ok (.iload_n 1, 1) := by decide +kernel
theorem dL_bring_5 : decode cL_bring 5 = .ok (.iload_n 2, 1) := by decide +kernel
theorem dL_bring_6 : decode cL_bring 6 = .ok (.iload_n 3, 1) := by decide +kernel
theorem dL_bring_7 : decode cL_bring 7 = .ok (.invokevirtual 39, 3) := by decide +kernel
theorem dL_bring_10 : decode cL_bring 10 = .ok (.i2l, 1) := by decide +kernel
theorem dL_bring_11 : decode cL_bring 11 = .ok (.lastore, 1) := by decide +kernel
theorem dL_bring_12 : decode cL_bring 12 = .ok (.goto 15, 3) := by decide +kernel
theorem dL_bring_15 : decode cL_bring 15 = .ok (.astore 5, 2) := by decide +kernel
theorem dL_bring_17 : decode cL_bring 17 = .ok (.iconst 1, 1) := by decide +kernel
theorem dL_bring_18 : decode cL_bring 18 = .ok (.ireturn, 1) := by decide +kernel
theorem dL_bring_19 : decode cL_bring 19 = .ok (.astore 5, 2) := by decide +kernel
theorem dL_bring_21 : decode cL_bring 21 = .ok (.iconst 2, 1) := by decide +kernel
theorem dL_bring_22 : decode cL_bring 22 = .ok (.ireturn, 1) := by decide +kernel
theorem dL_bring_23 : decode cL_bring 23 = .ok (.astore 5, 2) := by decide +kernel
theorem dL_bring_25 : decode cL_bring 25 = .ok (.iconst 3, 1) := by decide +kernel
theorem dL_bring_26 : decode cL_bring 26 = .ok (.ireturn, 1) := by decide +kernel
theorem dL_bring_27 : decode cL_bring 27 = .ok (.iconst 0, 1) := by decide +kernel
theorem dL_bring_28 : decode cL_bring 28 = .ok (.ireturn, 1) := by decide +kernel
theorem dL_step_0 : decode cL_step 0 = .ok (.aload_n 2, 1) := by decide +kernel
theorem dL_step_1 : decode cL_step 1 = .ok (.iconst 0, 1) := by decide +kernel
theorem dL_step_2 : decode cL_step 2 = .ok (.aload_n 0, 1) := by decide +kernel
theorem dL_step_3 : decode cL_step 3 = .ok (.iload_n 1, 1) := by decide +kernel
theorem dL_step_4 : decode cL_step 4 = .ok (.invokevirtual 43, 3) := by decide +kernel
theorem dL_step_7 : decode cL_step 7 = .ok (.i2l, 1) := by decide +kernel
theorem dL_step_8 : decode cL_step 8 = .ok (.lastore, 1) := by decide +kernel
theorem dL_step_9 : decode cL_step 9 = .ok (.goto 9, 3) := by decide +kernel
theorem dL_step_12 : decode cL_step 12 = .ok (.astore_n 3, 1) := by decide +kernel
theorem dL_step_13 : decode cL_step 13 = .ok (.iconst 1, 1) := by decide +kernel
theorem dL_step_14 : decode cL_step 14 = .ok (.ireturn, 1) := by decide +kernel
theorem dL_step_15 : decode cL_step 15 = .ok (.astore_n 3, 1) := by decide +kernel
theorem dL_step_16 : decode cL_step 16 = .ok (.iconst 2, 1) := by decide +kernel
theorem dL_step_17 : decode cL_step 17 = .ok (.ireturn, 1) := by decide +kernel
theorem dL_step_18 : decode cL_step 18 = .ok (.iconst 0, 1) := by decide +kernel
theorem dL_step_19 : decode cL_step 19 = .ok (.ireturn, 1) := by decide +kernel
theorem dL_back_0 : decode cL_back 0 = .ok (.aload_n 2, 1) := by decide +kernel
theorem dL_back_1 : decode cL_back 1 = .ok (.iconst 0, 1) := by decide +kernel
theorem dL_back_2 : decode cL_back 2 = .ok (.aload_n 0, 1) := by decide +kernel
theorem dL_back_3 : decode cL_back 3 = .ok (.iload_n 1, 1) := by decide +kernel
theorem dL_back_4 : decode cL_back 4 = .ok (.invokevirtual 46, 3) := by decide +kernel
theorem dL_back_7 : decode cL_back 7 = .ok (.i2l, 1) := by decide +kernel
theorem dL_back_8 : decode cL_back 8 = .ok (.lastore, 1) := by decide +kernel
theorem dL_back_9 : decode cL_back 9 = .ok (.goto 9, 3) := by decide +kernel
theorem dL_back_12 : decode cL_back 12 = .ok (.astore_n 3, 1) := by decide +kernel
theorem dL_back_13 : decode cL_back 13 = .ok (.iconst 1, 1) := by decide +kernel
theorem dL_back_14 : decode cL_back 14 = .ok (.ireturn, 1) := by decide +kernel
theorem dL_back_15 : decode cL_back 15 = .ok (.astore_n 3, 1) := by decide +kernel
theorem dL_back_16 : decode cL_back 16 = .ok (.iconst 2, 1) := by decide +kernel
theorem dL_back_17 : decode cL_back 17 = .ok (.ireturn, 1) := by decide +kernel
theorem dL_back_18 : decode cL_back 18 = .ok (.iconst 0, 1) := by decide +kernel
theorem dL_back_19 : decode cL_back 19 = .ok (.ireturn, 1) := by decide +kernel
theorem dL_flow_0 : decode cL_flow 0 = .ok (.aload_n 2, 1) := by decide +kernel
theorem dL_flow_1 : decode cL_flow 1 = .ok (.iconst 0, 1) := by decide +kernel
theorem dL_flow_2 : decode cL_flow 2 = .ok (.aload_n 0, 1) := by decide +kernel
theorem dL_flow_3 : decode cL_flow 3 = .ok (.iload_n 1, 1) := by decide +kernel
theorem dL_flow_4 : decode cL_flow 4 = .ok (.invokevirtual 49, 3) := by decide +kernel
theorem dL_flow_7 : decode cL_flow 7 = .ok (.lastore, 1) := by decide +kernel
theorem dL_flow_8 : decode cL_flow 8 = .ok (.goto 6, 3) := by decide +kernel
theorem dL_flow_11 : decode cL_flow 11 = .ok (.astore_n 3, 1) := by decide +kernel
theorem dL_flow_12 : decode cL_flow 12 = .ok (.iconst 1, 1) := by decide +kernel
theorem dL_flow_13 : decode cL_flow 13 = .ok (.ireturn, 1) := by decide +kernel
theorem dL_flow_14 : decode cL_flow 14 = .ok (.iconst 0, 1) := by decide +kernel
theorem dL_flow_15 : decode cL_flow 15 = .ok (.ireturn, 1) := by decide +kernel
theorem dL_cellOf_0 : decode cL_cellOf 0 = .ok (.aload_n 3, 1) := by decide +kernel
theorem dL_cellOf_1 : decode cL_cellOf 1 = .ok (.iconst 0, 1) := by decide +kernel
theorem dL_cellOf_2 : decode cL_cellOf 2 = .ok (.aload_n 0, 1) := by decide +kernel
theorem dL_cellOf_3 : decode cL_cellOf 3 = .ok (.iload_n 1, 1) := by decide +kernel
theorem dL_cellOf_4 : decode cL_cellOf 4 = .ok (.iload_n 2, 1) := by decide +kernel
theorem dL_cellOf_5 : decode cL_cellOf 5 = .ok (.invokevirtual 53, 3) := by decide +kernel
theorem dL_cellOf_8 : decode cL_cellOf 8 = .ok (.i2l, 1) := by decide +kernel
theorem dL_cellOf_9 : decode cL_cellOf 9 = .ok (.lastore, 1) := by decide +kernel
theorem dL_cellOf_10 : decode cL_cellOf 10 = .ok (.goto 11, 3) := by decide +kernel
theorem dL_cellOf_13 : decode cL_cellOf 13 = .ok (.astore 4, 2) := by decide +kernel
theorem dL_cellOf_15 : decode cL_cellOf 15 = .ok (.iconst 1, 1) := by decide +kernel
theorem dL_cellOf_16 : decode cL_cellOf 16 = .ok (.ireturn, 1) := by decide +kernel
theorem dL_cellOf_17 : decode cL_cellOf 17 = .ok (.astore 4, 2) := by decide +kernel
theorem dL_cellOf_19 : decode cL_cellOf 19 = .ok (.iconst 2, 1) := by decide +kernel
theorem dL_cellOf_20 : decode cL_cellOf 20 = .ok (.ireturn, 1) := by decide +kernel
theorem dL_cellOf_21 : decode cL_cellOf 21 = .ok (.iconst 0, 1) := by decide +kernel
theorem dL_cellOf_22 : decode cL_cellOf 22 = .ok (.ireturn, 1) := by decide +kernel
theorem dL_bodyOf_0 : decode cL_bodyOf 0 = .ok (.aload_n 3, 1) := by decide +kernel
theorem dL_bodyOf_1 : decode cL_bodyOf 1 = .ok (.iconst 0, 1) := by decide +kernel
theorem dL_bodyOf_2 : decode cL_bodyOf 2 = .ok (.aload_n 0, 1) := by decide +kernel
theorem dL_bodyOf_3 : decode cL_bodyOf 3 = .ok (.iload_n 1, 1) := by decide +kernel
theorem dL_bodyOf_4 : decode cL_bodyOf 4 = .ok (.iload_n 2, 1) := by decide +kernel
theorem dL_bodyOf_5 : decode cL_bodyOf 5 = .ok (.invokevirtual 56, 3) := by decide +kernel
theorem dL_bodyOf_8 : decode cL_bodyOf 8 = .ok (.i2l, 1) := by decide +kernel
theorem dL_bodyOf_9 : decode cL_bodyOf 9 = .ok (.lastore, 1) := by decide +kernel
theorem dL_bodyOf_10 : decode cL_bodyOf 10 = .ok (.goto 11, 3) := by decide +kernel
theorem dL_bodyOf_13 : decode cL_bodyOf 13 = .ok (.astore 4, 2) := by decide +kernel
theorem dL_bodyOf_15 : decode cL_bodyOf 15 = .ok (.iconst 1, 1) := by decide +kernel
theorem dL_bodyOf_16 : decode cL_bodyOf 16 = .ok (.ireturn, 1) := by decide +kernel
theorem dL_bodyOf_17 : decode cL_bodyOf 17 = .ok (.astore 4, 2) := by decide +kernel
theorem dL_bodyOf_19 : decode cL_bodyOf 19 = .ok (.iconst 2, 1) := by decide +kernel
theorem dL_bodyOf_20 : decode cL_bodyOf 20 = .ok (.ireturn, 1) := by decide +kernel
theorem dL_bodyOf_21 : decode cL_bodyOf 21 = .ok (.iconst 0, 1) := by decide +kernel
theorem dL_bodyOf_22 : decode cL_bodyOf 22 = .ok (.ireturn, 1) := by decide +kernel
theorem dL_sum_0 : decode cL_sum 0 = .ok (.aload_n 2, 1) := by decide +kernel
theorem dL_sum_1 : decode cL_sum 1 = .ok (.iconst 0, 1) := by decide +kernel
theorem dL_sum_2 : decode cL_sum 2 = .ok (.aload_n 0, 1) := by decide +kernel
theorem dL_sum_3 : decode cL_sum 3 = .ok (.iload_n 1, 1) := by decide +kernel
theorem dL_sum_4 : decode cL_sum 4 = .ok (.invokevirtual 59, 3) := by decide +kernel
theorem dL_sum_7 : decode cL_sum 7 = .ok (.lastore, 1) := by decide +kernel
theorem dL_sum_8 : decode cL_sum 8 = .ok (.goto 6, 3) := by decide +kernel
theorem dL_sum_11 : decode cL_sum 11 = .ok (.astore_n 3, 1) := by decide +kernel
theorem dL_sum_12 : decode cL_sum 12 = .ok (.iconst 1, 1) := by decide +kernel
theorem dL_sum_13 : decode cL_sum 13 = .ok (.ireturn, 1) := by decide +kernel
theorem dL_sum_14 : decode cL_sum 14 = .ok (.iconst 0, 1) := by decide +kernel
theorem dL_sum_15 : decode cL_sum 15 = .ok (.ireturn, 1) := by decide +kernel
theorem dL_average_0 : decode cL_average 0 = .ok (.aload 7, 2) := by decide +kernel
theorem dL_average_2 : decode cL_average 2 = .ok (.iconst 0, 1) := by decide +kernel
theorem dL_average_3 : decode cL_average 3 = .ok (.aload_n 0, 1) := by decide +kernel
theorem dL_average_4 : decode cL_average 4 = .ok (.iload_n 1, 1) := by decide +kernel
theorem dL_average_5 : decode cL_average 5 = .ok (.iload_n 2, 1) := by decide +kernel
theorem dL_average_6 : decode cL_average 6 = .ok (.iload_n 3, 1) := by decide +kernel
theorem dL_average_7 : decode cL_average 7 = .ok (.iload 4, 2) := by decide +kernel
theorem dL_average_9 : decode cL_average 9 = .ok (.iload 5, 2) := by decide +kernel
theorem dL_average_11 : decode cL_average 11 = .ok (.iload 6, 2) := by decide +kernel
theorem dL_average_13 : decode cL_average 13 = .ok (.invokevirtual 62, 3) := by decide +kernel
theorem dL_average_16 : decode cL_average 16 = .ok (.lastore, 1) := by decide +kernel
theorem dL_average_17 : decode cL_average 17 = .ok (.goto 7, 3) := by decide +kernel
theorem dL_average_20 : decode cL_average 20 = .ok (.astore 8, 2) := by decide +kernel
theorem dL_average_22 : decode cL_average 22 = .ok (.iconst 1, 1) := by decide +kernel
theorem dL_average_23 : decode cL_average 23 = .ok (.ireturn, 1) := by decide +kernel
theorem dL_average_24 : decode cL_average 24 = .ok (.iconst 0, 1) := by decide +kernel
theorem dL_average_25 : decode cL_average 25 = .ok (.ireturn, 1) := by decide +kernel
theorem dL_scatter_0 : decode cL_scatter 0 = .ok (.aload 7, 2) := by decide +kernel
theorem dL_scatter_2 : decode cL_scatter 2 = .ok (.iconst 0, 1) := by decide +kernel
theorem dL_scatter_3 : decode cL_scatter 3 = .ok (.aload_n 0, 1) := by decide +kernel
theorem dL_scatter_4 : decode cL_scatter 4 = .ok (.iload_n 1, 1) := by decide +kernel
theorem dL_scatter_5 : decode cL_scatter 5 = .ok (.iload_n 2, 1) := by decide +kernel
theorem dL_scatter_6 : decode cL_scatter 6 = .ok (.iload_n 3, 1) := by decide +kernel
theorem dL_scatter_7 : decode cL_scatter 7 = .ok (.iload 4, 2) := by decide +kernel
theorem dL_scatter_9 : decode cL_scatter 9 = .ok (.iload 5, 2) := by decide +kernel
theorem dL_scatter_11 : decode cL_scatter 11 = .ok (.iload 6, 2) := by decide +kernel
theorem dL_scatter_13 : decode cL_scatter 13 = .ok (.invokevirtual 66, 3) := by decide +kernel
theorem dL_scatter_16 : decode cL_scatter 16 = .ok (.lastore, 1) := by decide +kernel
theorem dL_scatter_17 : decode cL_scatter 17 = .ok (.goto 7, 3) := by decide +kernel
theorem dL_scatter_20 : decode cL_scatter 20 = .ok (.astore 8, 2) := by decide +kernel
theorem dL_scatter_22 : decode cL_scatter 22 = .ok (.iconst 1, 1) := by decide +kernel
theorem dL_scatter_23 : decode cL_scatter 23 = .ok (.ireturn, 1) := by decide +kernel
theorem dL_scatter_24 : decode cL_scatter 24 = .ok (.iconst 0, 1) := by decide +kernel
theorem dL_scatter_25 : decode cL_scatter 25 = .ok (.ireturn, 1) := by decide +kernel
theorem dL_likeness_0 : decode cL_likeness 0 = .ok (.aload 5, 2) := by decide +kernel
theorem dL_likeness_2 : decode cL_likeness 2 = .ok (.iconst 0, 1) := by decide +kernel
theorem dL_likeness_3 : decode cL_likeness 3 = .ok (.aload_n 0, 1) := by decide +kernel
theorem dL_likeness_4 : decode cL_likeness 4 = .ok (.iload_n 1, 1) := by decide +kernel
theorem dL_likeness_5 : decode cL_likeness 5 = .ok (.iload_n 2, 1) := by decide +kernel
theorem dL_likeness_6 : decode cL_likeness 6 = .ok (.iload_n 3, 1) := by decide +kernel
theorem dL_likeness_7 : decode cL_likeness 7 = .ok (.iload 4, 2) := by decide +kernel
theorem dL_likeness_9 : decode cL_likeness 9 = .ok (.invokevirtual 69, 3) := by decide +kernel
theorem dL_likeness_12 : decode cL_likeness 12 = .ok (.f2d, 1) := by decide +kernel
theorem dL_likeness_13 : decode cL_likeness 13 = .ok (.dastore, 1) := by decide +kernel
theorem dL_likeness_14 : decode cL_likeness 14 = .ok (.goto 7, 3) := by decide +kernel
theorem dL_likeness_17 : decode cL_likeness 17 = .ok (.astore 6, 2) := by decide +kernel
theorem dL_likeness_19 : decode cL_likeness 19 = .ok (.iconst 1, 1) := by decide +kernel
theorem dL_likeness_20 : decode cL_likeness 20 = .ok (.ireturn, 1) := by decide +kernel
theorem dL_likeness_21 : decode cL_likeness 21 = .ok (.iconst 0, 1) := by decide +kernel
theorem dL_likeness_22 : decode cL_likeness 22 = .ok (.ireturn, 1) := by decide +kernel
theorem dL_ahead_0 : decode cL_ahead 0 = .ok (.aload_n 3, 1) := by decide +kernel
theorem dL_ahead_1 : decode cL_ahead 1 = .ok (.iconst 0, 1) := by decide +kernel
theorem dL_ahead_2 : decode cL_ahead 2 = .ok (.aload_n 0, 1) := by decide +kernel
theorem dL_ahead_3 : decode cL_ahead 3 = .ok (.iload_n 1, 1) := by decide +kernel
theorem dL_ahead_4 : decode cL_ahead 4 = .ok (.iload_n 2, 1) := by decide +kernel
theorem dL_ahead_5 : decode cL_ahead 5 = .ok (.invokevirtual 73, 3) := by decide +kernel
theorem dL_ahead_8 : decode cL_ahead 8 = .ok (.i2l, 1) := by decide +kernel
theorem dL_ahead_9 : decode cL_ahead 9 = .ok (.lastore, 1) := by decide +kernel
theorem dL_ahead_10 : decode cL_ahead 10 = .ok (.goto 11, 3) := by decide +kernel
theorem dL_ahead_13 : decode cL_ahead 13 = .ok (.astore 4, 2) := by decide +kernel
theorem dL_ahead_15 : decode cL_ahead 15 = .ok (.iconst 1, 1) := by decide +kernel
theorem dL_ahead_16 : decode cL_ahead 16 = .ok (.ireturn, 1) := by decide +kernel
theorem dL_ahead_17 : decode cL_ahead 17 = .ok (.astore 4, 2) := by decide +kernel
theorem dL_ahead_19 : decode cL_ahead 19 = .ok (.iconst 2, 1) := by decide +kernel
theorem dL_ahead_20 : decode cL_ahead 20 = .ok (.ireturn, 1) := by decide +kernel
theorem dL_ahead_21 : decode cL_ahead 21 = .ok (.iconst 0, 1) := by decide +kernel
theorem dL_ahead_22 : decode cL_ahead 22 = .ok (.ireturn, 1) := by decide +kernel
theorem dL_aheadAnew_0 : decode cL_aheadAnew 0 = .ok (.aload_n 3, 1) := by decide +kernel
theorem dL_aheadAnew_1 : decode cL_aheadAnew 1 = .ok (.iconst 0, 1) := by decide +kernel
theorem dL_aheadAnew_2 : decode cL_aheadAnew 2 = .ok (.aload_n 0, 1) := by decide +kernel
theorem dL_aheadAnew_3 : decode cL_aheadAnew 3 = .ok (.iload_n 1, 1) := by decide +kernel
theorem dL_aheadAnew_4 : decode cL_aheadAnew 4 = .ok (.iload_n 2, 1) := by decide +kernel
theorem dL_aheadAnew_5 : decode cL_aheadAnew 5 = .ok (.invokevirtual 76, 3) := by decide +kernel
theorem dL_aheadAnew_8 : decode cL_aheadAnew 8 = .ok (.i2l, 1) := by decide +kernel
theorem dL_aheadAnew_9 : decode cL_aheadAnew 9 = .ok (.lastore, 1) := by decide +kernel
theorem dL_aheadAnew_10 : decode cL_aheadAnew 10 = .ok (.goto 11, 3) := by decide +kernel
theorem dL_aheadAnew_13 : decode cL_aheadAnew 13 = .ok (.astore 4, 2) := by decide +kernel
theorem dL_aheadAnew_15 : decode cL_aheadAnew 15 = .ok (.iconst 1, 1) := by decide +kernel
theorem dL_aheadAnew_16 : decode cL_aheadAnew 16 = .ok (.ireturn, 1) := by decide +kernel
theorem dL_aheadAnew_17 : decode cL_aheadAnew 17 = .ok (.astore 4, 2) := by decide +kernel
theorem dL_aheadAnew_19 : decode cL_aheadAnew 19 = .ok (.iconst 2, 1) := by decide +kernel
theorem dL_aheadAnew_20 : decode cL_aheadAnew 20 = .ok (.ireturn, 1) := by decide +kernel
theorem dL_aheadAnew_21 : decode cL_aheadAnew 21 = .ok (.iconst 0, 1) := by decide +kernel
theorem dL_aheadAnew_22 : decode cL_aheadAnew 22 = .ok (.ireturn, 1) := by decide +kernel
theorem dL_mixed_0 : decode cL_mixed 0 = .ok (.aload_n 2, 1) := by decide +kernel
theorem dL_mixed_1 : decode cL_mixed 1 = .ok (.iconst 0, 1) := by decide +kernel
theorem dL_mixed_2 : decode cL_mixed 2 = .ok (.aload_n 0, 1) := by decide +kernel
theorem dL_mixed_3 : decode cL_mixed 3 = .ok (.iload_n 1, 1) := by decide +kernel
theorem dL_mixed_4 : decode cL_mixed 4 = .ok (.invokevirtual 79, 3) := by decide +kernel
theorem dL_mixed_7 : decode cL_mixed 7 = .ok (.lastore, 1) := by decide +kernel
theorem dL_mixed_8 : decode cL_mixed 8 = .ok (.goto 6, 3) := by decide +kernel
theorem dL_mixed_11 : decode cL_mixed 11 = .ok (.astore_n 3, 1) := by decide +kernel
theorem dL_mixed_12 : decode cL_mixed 12 = .ok (.iconst 1, 1) := by decide +kernel
theorem dL_mixed_13 : decode cL_mixed 13 = .ok (.ireturn, 1) := by decide +kernel
theorem dL_mixed_14 : decode cL_mixed 14 = .ok (.iconst 0, 1) := by decide +kernel
theorem dL_mixed_15 : decode cL_mixed 15 = .ok (.ireturn, 1) := by decide +kernel
theorem dL_record_0 : decode cL_record 0 = .ok (.aload_n 3, 1) := by decide +kernel
theorem dL_record_1 : decode cL_record 1 = .ok (.iconst 0, 1) := by decide +kernel
theorem dL_record_2 : decode cL_record 2 = .ok (.aload_n 0, 1) := by decide +kernel
theorem dL_record_3 : decode cL_record 3 = .ok (.iload_n 1, 1) := by decide +kernel
theorem dL_record_4 : decode cL_record 4 = .ok (.iload_n 2, 1) := by decide +kernel
theorem dL_record_5 : decode cL_record 5 = .ok (.invokevirtual 82, 3) := by decide +kernel
theorem dL_record_8 : decode cL_record 8 = .ok (.i2l, 1) := by decide +kernel
theorem dL_record_9 : decode cL_record 9 = .ok (.lastore, 1) := by decide +kernel
theorem dL_record_10 : decode cL_record 10 = .ok (.goto 7, 3) := by decide +kernel
theorem dL_record_13 : decode cL_record 13 = .ok (.astore 4, 2) := by decide +kernel
theorem dL_record_15 : decode cL_record 15 = .ok (.iconst 1, 1) := by decide +kernel
theorem dL_record_16 : decode cL_record 16 = .ok (.ireturn, 1) := by decide +kernel
theorem dL_record_17 : decode cL_record 17 = .ok (.iconst 0, 1) := by decide +kernel
theorem dL_record_18 : decode cL_record 18 = .ok (.ireturn, 1) := by decide +kernel
theorem dL_beat_0 : decode cL_beat 0 = .ok (.aload_n 2, 1) := by decide +kernel
theorem dL_beat_1 : decode cL_beat 1 = .ok (.iconst 0, 1) := by decide +kernel
theorem dL_beat_2 : decode cL_beat 2 = .ok (.aload_n 0, 1) := by decide +kernel
theorem dL_beat_3 : decode cL_beat 3 = .ok (.iload_n 1, 1) := by decide +kernel
theorem dL_beat_4 : decode cL_beat 4 = .ok (.invokevirtual 85, 3) := by decide +kernel
theorem dL_beat_7 : decode cL_beat 7 = .ok (.i2l, 1) := by decide +kernel
theorem dL_beat_8 : decode cL_beat 8 = .ok (.lastore, 1) := by decide +kernel
theorem dL_beat_9 : decode cL_beat 9 = .ok (.goto 6, 3) := by decide +kernel
theorem dL_beat_12 : decode cL_beat 12 = .ok (.astore_n 3, 1) := by decide +kernel
theorem dL_beat_13 : decode cL_beat 13 = .ok (.iconst 1, 1) := by decide +kernel
theorem dL_beat_14 : decode cL_beat 14 = .ok (.ireturn, 1) := by decide +kernel
theorem dL_beat_15 : decode cL_beat 15 = .ok (.iconst 0, 1) := by decide +kernel
theorem dL_beat_16 : decode cL_beat 16 = .ok (.ireturn, 1) := by decide +kernel
theorem dL_better_0 : decode cL_better 0 = .ok (.aload_n 3, 1) := by decide +kernel
theorem dL_better_1 : decode cL_better 1 = .ok (.iconst 0, 1) := by decide +kernel
theorem dL_better_2 : decode cL_better 2 = .ok (.aload_n 0, 1) := by decide +kernel
theorem dL_better_3 : decode cL_better 3 = .ok (.iload_n 1, 1) := by decide +kernel
theorem dL_better_4 : decode cL_better 4 = .ok (.iload_n 2, 1) := by decide +kernel
theorem dL_better_5 : decode cL_better 5 = .ok (.invokevirtual 88, 3) := by decide +kernel
theorem dL_better_8 : decode cL_better 8 = .ok (.i2l, 1) := by decide +kernel
theorem dL_better_9 : decode cL_better 9 = .ok (.lastore, 1) := by decide +kernel
theorem dL_better_10 : decode cL_better 10 = .ok (.goto 11, 3) := by decide +kernel
theorem dL_better_13 : decode cL_better 13 = .ok (.astore 4, 2) := by decide +kernel
theorem dL_better_15 : decode cL_better 15 = .ok (.iconst 1, 1) := by decide +kernel
theorem dL_better_16 : decode cL_better 16 = .ok (.ireturn, 1) := by decide +kernel
theorem dL_better_17 : decode cL_better 17 = .ok (.astore 4, 2) := by decide +kernel
theorem dL_better_19 : decode cL_better 19 = .ok (.iconst 2, 1) := by decide +kernel
theorem dL_better_20 : decode cL_better 20 = .ok (.ireturn, 1) := by decide +kernel
theorem dL_better_21 : decode cL_better 21 = .ok (.iconst 0, 1) := by decide +kernel
theorem dL_better_22 : decode cL_better 22 = .ok (.ireturn, 1) := by decide +kernel
