theorem dX0_init_0 : decode cX0_init 0 = .ok (.aload_n 0, 1) := by decide +kernel
theorem dX0_init_1 : decode cX0_init 1 = .ok (.invokespecial 3, 3) := by decide +kernel
theorem dX0_init_4 : decode cX0_init 4 = .ok (.aload_n 0, 1) := by decide +kernel
theorem dX0_init_5 : decode cX0_init 5 = .ok (.iconst 4, 1) := by decide +kernel
theorem dX0_init_6 : decode cX0_init 6 = .ok (.bipush 96, 2) := by decide +kernel
theorem dX0_init_8 : decode cX0_init 8 = .ok (.multianewarray 9 2, 4) := by decide +kernel
theorem dX0_init_12 : decode cX0_init 12 = .ok (.putfield 11, 3) := by decide +kernel
theorem dX0_init_15 : decode cX0_init 15 = .ok (.aload_n 0, 1) := by decide +kernel
theorem dX0_init_16 : decode cX0_init 16 = .ok (.iconst 4, 1) := by decide +kernel
theorem dX0_init_17 : decode cX0_init 17 = .ok (.bipush 96, 2) := by decide +kernel
theorem dX0_init_19 : decode cX0_init 19 = .ok (.multianewarray 9 2, 4) := by decide +kernel
theorem dX0_init_23 : decode cX0_init 23 = .ok (.putfield 16, 3) := by decide +kernel
theorem dX0_init_26 : decode cX0_init 26 = .ok (.return_, 1) := by decide +kernel
theorem dX0_areAt_0 : decode cX0_areAt 0 = .ok (.aload_n 0, 1) := by decide +kernel
theorem dX0_areAt_1 : decode cX0_areAt 1 = .ok (.getfield 11, 3) := by decide +kernel
theorem dX0_areAt_4 : decode cX0_areAt 4 = .ok (.astore_n 2, 1) := by decide +kernel
theorem dX0_areAt_5 : decode cX0_areAt 5 = .ok (.aload_n 2, 1) := by decide +kernel
theorem dX0_areAt_6 : decode cX0_areAt 6 = .ok (.arraylength, 1) := by decide +kernel
theorem dX0_areAt_7 : decode cX0_areAt 7 = .ok (.istore_n 3, 1) := by decide +kernel
theorem dX0_areAt_8 : decode cX0_areAt 8 = .ok (.iconst 0, 1) := by decide +kernel
theorem dX0_areAt_9 : decode cX0_areAt 9 = .ok (.istore 4, 2) := by decide +kernel
theorem dX0_areAt_11 : decode cX0_areAt 11 = .ok (.iload 4, 2) := by decide +kernel
theorem dX0_areAt_13 : decode cX0_areAt 13 = .ok (.iload_n 3, 1) := by decide +kernel
theorem dX0_areAt_14 : decode cX0_areAt 14 = .ok (.if_icmp .ge 24, 3) := by decide +kernel
theorem dX0_areAt_17 : decode cX0_areAt 17 = .ok (.aload_n 2, 1) := by decide +kernel
theorem dX0_areAt_18 : decode cX0_areAt 18 = .ok (.iload 4, 2) := by decide +kernel
theorem dX0_areAt_20 : decode cX0_areAt 20 = .ok (.aaload, 1) := by decide +kernel
theorem dX0_areAt_21 : decode cX0_areAt 21 = .ok (.astore 5, 2) := by decide +kernel
theorem dX0_areAt_23 : decode cX0_areAt 23 = .ok (.aload 5, 2) := by decide +kernel
theorem dX0_areAt_25 : decode cX0_areAt 25 = .ok (.iload_n 1, 1) := by decide +kernel
theorem dX0_areAt_26 : decode cX0_areAt 26 = .ok (.iaload, 1) := by decide +kernel
theorem dX0_areAt_27 : decode cX0_areAt 27 = .ok (.ifCond .le 5, 3) := by decide +kernel
theorem dX0_areAt_30 : decode cX0_areAt 30 = .ok (.iconst 1, 1) := by decide +kernel
theorem dX0_areAt_31 : decode cX0_areAt 31 = .ok (.ireturn, 1) := by decide +kernel
theorem dX0_areAt_32 : decode cX0_areAt 32 = .ok (.iinc 4 1, 3) := by decide +kernel
theorem dX0_areAt_35 : decode cX0_areAt 35 = .ok (.goto (-24), 3) := by decide +kernel
theorem dX0_areAt_38 : decode cX0_areAt 38 = .ok (.iconst 0, 1) := by decide +kernel
theorem dX0_areAt_39 : decode cX0_areAt 39 = .ok (.ireturn, 1) := by decide +kernel
theorem dX0_numberAt_0 : decode cX0_numberAt 0 = .ok (.aload_n 0, 1) := by decide +kernel
theorem dX0_numberAt_1 : decode cX0_numberAt 1 = .ok (.getfield 11, 3) := by decide +kernel
theorem dX0_numberAt_4 : decode cX0_numberAt 4 = .ok (.iconst 0, 1) := by decide +kernel
theorem dX0_numberAt_5 : decode cX0_numberAt 5 = .ok (.aaload, 1) := by decide +kernel
theorem dX0_numberAt_6 : decode cX0_numberAt 6 = .ok (.iload_n 1, 1) := by decide +kernel
theorem dX0_numberAt_7 : decode cX0_numberAt 7 = .ok (.iaload, 1) := by decide +kernel
theorem dX0_numberAt_8 : decode cX0_numberAt 8 = .ok (.aload_n 0, 1) := by decide +kernel
theorem dX0_numberAt_9 : decode cX0_numberAt 9 = .ok (.getfield 11, 3) := by decide +kernel
theorem dX0_numberAt_12 : decode cX0_numberAt 12 = .ok (.iconst 2, 1) := by decide +kernel
theorem dX0_numberAt_13 : decode cX0_numberAt 13 = .ok (.aaload, 1) := by decide +kernel
theorem dX0_numberAt_14 : decode cX0_numberAt 14 = .ok (.iload_n 1, 1) := by decide +kernel
theorem dX0_numberAt_15 : decode cX0_numberAt 15 = .ok (.iaload, 1) := by decide +kernel
theorem dX0_numberAt_16 : decode cX0_numberAt 16 = .ok (.iadd, 1) := by decide +kernel
theorem dX0_numberAt_17 : decode cX0_numberAt 17 = .ok (.istore_n 3, 1) := by decide +kernel
theorem dX0_numberAt_18 : decode cX0_numberAt 18 = .ok (.aload_n 0, 1) := by decide +kernel
theorem dX0_numberAt_19 : decode cX0_numberAt 19 = .ok (.getfield 11, 3) := by decide +kernel
theorem dX0_numberAt_22 : decode cX0_numberAt 22 = .ok (.iconst 1, 1) := by decide +kernel
theorem dX0_numberAt_23 : decode cX0_numberAt 23 = .ok (.aaload, 1) := by decide +kernel
theorem dX0_numberAt_24 : decode cX0_numberAt 24 = .ok (.iload_n 1, 1) := by decide +kernel
theorem dX0_numberAt_25 : decode cX0_numberAt 25 = .ok (.iaload, 1) := by decide +kernel
theorem dX0_numberAt_26 : decode cX0_numberAt 26 = .ok (.aload_n 0, 1) := by decide +kernel
theorem dX0_numberAt_27 : decode cX0_numberAt 27 = .ok (.getfield 11, 3) := by decide +kernel
theorem dX0_numberAt_30 : decode cX0_numberAt 30 = .ok (.iconst 3, 1) := by decide +kernel
theorem dX0_numberAt_31 : decode cX0_numberAt 31 = .ok (.aaload, 1) := by decide +kernel
theorem dX0_numberAt_32 : decode cX0_numberAt 32 = .ok (.iload_n 1, 1) := by decide +kernel
theorem dX0_numberAt_33 : decode cX0_numberAt 33 = .ok (.iaload, 1) := by decide +kernel
theorem dX0_numberAt_34 : decode cX0_numberAt 34 = .ok (.iadd, 1) := by decide +kernel
theorem dX0_numberAt_35 : decode cX0_numberAt 35 = .ok (.istore 4, 2) := by decide +kernel
theorem dX0_numberAt_37 : decode cX0_numberAt 37 = .ok (.iload_n 2, 1) := by decide +kernel
theorem dX0_numberAt_38 : decode cX0_numberAt 38 = .ok (.ifCond .ne 8, 3) := by decide +kernel
theorem dX0_numberAt_41 : decode cX0_numberAt 41 = .ok (.iload_n 3, 1) := by decide +kernel
theorem dX0_numberAt_42 : decode cX0_numberAt 42 = .ok (.iload 4, 2) := by decide +kernel
theorem dX0_numberAt_44 : decode cX0_numberAt 44 = .ok (.iadd, 1) := by decide +kernel
theorem dX0_numberAt_45 : decode cX0_numberAt 45 = .ok (.ireturn, 1) := by decide +kernel
theorem dX0_numberAt_46 : decode cX0_numberAt 46 = .ok (.iload_n 2, 1) := by decide +kernel
theorem dX0_numberAt_47 : decode cX0_numberAt 47 = .ok (.iconst 1, 1) := by decide +kernel
theorem dX0_numberAt_48 : decode cX0_numberAt 48 = .ok (.if_icmp .ne 23, 3) := by decide +kernel
theorem dX0_numberAt_51 : decode cX0_numberAt 51 = .ok (.aload_n 0, 1) := by decide +kernel
theorem dX0_numberAt_52 : decode cX0_numberAt 52 = .ok (.getfield 11, 3) := by decide +kernel
theorem dX0_numberAt_55 : decode cX0_numberAt 55 = .ok (.iconst 0, 1) := by decide +kernel
theorem dX0_numberAt_56 : decode cX0_numberAt 56 = .ok (.aaload, 1) := by decide +kernel
theorem dX0_numberAt_57 : decode cX0_numberAt 57 = .ok (.iload_n 1, 1) := by decide +kernel
theorem dX0_numberAt_58 : decode cX0_numberAt 58 = .ok (.iaload, 1) := by decide +kernel
theorem dX0_numberAt_59 : decode cX0_numberAt 59 = .ok (.aload_n 0, 1) := by decide +kernel
theorem dX0_numberAt_60 : decode cX0_numberAt 60 = .ok (.getfield 11, 3) := by decide +kernel
theorem dX0_numberAt_63 : decode cX0_numberAt 63 = .ok (.iconst 2, 1) := by decide +kernel
theorem dX0_numberAt_64 : decode cX0_numberAt 64 = .ok (.aaload, 1) := by decide +kernel
theorem dX0_numberAt_65 : decode cX0_numberAt 65 = .ok (.iload_n 1, 1) := by decide +kernel
theorem dX0_numberAt_66 : decode cX0_numberAt 66 = .ok (.iaload, 1) := by decide +kernel
theorem dX0_numberAt_67 : decode cX0_numberAt 67 = .ok (.isub, 1) := by decide +kernel
theorem dX0_numberAt_68 : decode cX0_numberAt 68 = .ok (.goto 20, 3) := by decide +kernel
theorem dX0_numberAt_71 : decode cX0_numberAt 71 = .ok (.aload_n 0, 1) := by decide +kernel
theorem dX0_numberAt_72 : decode cX0_numberAt 72 = .ok (.getfield 11, 3) := by decide +kernel
theorem dX0_numberAt_75 : decode cX0_numberAt 75 = .ok (.iconst 1, 1) := by decide +kernel
theorem dX0_numberAt_76 : decode cX0_numberAt 76 = .ok (.aaload, 1) := by decide +kernel
theorem dX0_numberAt_77 : decode cX0_numberAt 77 = .ok (.iload_n 1, 1) := by decide +kernel
theorem dX0_numberAt_78 : decode cX0_numberAt 78 = .ok (.iaload, 1) := by decide +kernel
theorem dX0_numberAt_79 : decode cX0_numberAt 79 = .ok (.aload_n 0, 1) := by decide +kernel
theorem dX0_numberAt_80 : decode cX0_numberAt 80 = .ok (.getfield 11, 3) := by decide +kernel
theorem dX0_numberAt_83 : decode cX0_numberAt 83 = .ok (.iconst 3, 1) := by decide +kernel
theorem dX0_numberAt_84 : decode cX0_numberAt 84 = .ok (.aaload, 1) := by decide +kernel
theorem dX0_numberAt_85 : decode cX0_numberAt 85 = .ok (.iload_n 1, 1) := by decide +kernel
theorem dX0_numberAt_86 : decode cX0_numberAt 86 = .ok (.iaload, 1) := by decide +kernel
theorem dX0_numberAt_87 : decode cX0_numberAt 87 = .ok (.isub, 1) := by decide +kernel
theorem dX0_numberAt_88 : decode cX0_numberAt 88 = .ok (.ireturn, 1) := by decide +kernel
theorem dX0_passRound_0 : decode cX0_passRound 0 = .ok (.iconst 0, 1) := by decide +kernel
theorem dX0_passRound_1 : decode cX0_passRound 1 = .ok (.istore_n 2, 1) := by decide +kernel
theorem dX0_passRound_2 : decode cX0_passRound 2 = .ok (.iload_n 2, 1) := by decide +kernel
theorem dX0_passRound_3 : decode cX0_passRound 3 = .ok (.bipush 96, 2) := by decide +kernel
theorem dX0_passRound_5 : decode cX0_passRound 5 = .ok (.if_icmp .ge 14, 3) := by decide +kernel
theorem dX0_passRound_8 : decode cX0_passRound 8 = .ok (.aload_n 0, 1) := by decide +kernel
theorem dX0_passRound_9 : decode cX0_passRound 9 = .ok (.iload_n 2, 1) := by decide +kernel
theorem dX0_passRound_10 : decode cX0_passRound 10 = .ok (.invokevirtual 19, 3) := by decide +kernel
theorem dX0_passRound_13 : decode cX0_passRound 13 = .ok (.iinc 2 1, 3) := by decide +kernel
theorem dX0_passRound_16 : decode cX0_passRound 16 = .ok (.goto (-14), 3) := by decide +kernel
theorem dX0_passRound_19 : decode cX0_passRound 19 = .ok (.iconst 0, 1) := by decide +kernel
theorem dX0_passRound_20 : decode cX0_passRound 20 = .ok (.istore_n 2, 1) := by decide +kernel
theorem dX0_passRound_21 : decode cX0_passRound 21 = .ok (.iload_n 2, 1) := by decide +kernel
theorem dX0_passRound_22 : decode cX0_passRound 22 = .ok (.iconst 4, 1) := by decide +kernel
theorem dX0_passRound_23 : decode cX0_passRound 23 = .ok (.if_icmp .ge 15, 3) := by decide +kernel
theorem dX0_passRound_26 : decode cX0_passRound 26 = .ok (.aload_n 0, 1) := by decide +kernel
theorem dX0_passRound_27 : decode cX0_passRound 27 = .ok (.aload_n 1, 1) := by decide +kernel
theorem dX0_passRound_28 : decode cX0_passRound 28 = .ok (.iload_n 2, 1) := by decide +kernel
theorem dX0_passRound_29 : decode cX0_passRound 29 = .ok (.invokevirtual 23, 3) := by decide +kernel
theorem dX0_passRound_32 : decode cX0_passRound 32 = .ok (.iinc 2 1, 3) := by decide +kernel
theorem dX0_passRound_35 : decode cX0_passRound 35 = .ok (.goto (-14), 3) := by decide +kernel
theorem dX0_passRound_38 : decode cX0_passRound 38 = .ok (.iconst 0, 1) := by decide +kernel
theorem dX0_passRound_39 : decode cX0_passRound 39 = .ok (.istore_n 2, 1) := by decide +kernel
theorem dX0_passRound_40 : decode cX0_passRound 40 = .ok (.iload_n 2, 1) := by decide +kernel
theorem dX0_passRound_41 : decode cX0_passRound 41 = .ok (.iconst 4, 1) := by decide +kernel
theorem dX0_passRound_42 : decode cX0_passRound 42 = .ok (.if_icmp .ge 38, 3) := by decide +kernel
theorem dX0_passRound_45 : decode cX0_passRound 45 = .ok (.aload_n 0, 1) := by decide +kernel
theorem dX0_passRound_46 : decode cX0_passRound 46 = .ok (.getfield 16, 3) := by decide +kernel
theorem dX0_passRound_49 : decode cX0_passRound 49 = .ok (.iload_n 2, 1) := by decide +kernel
theorem dX0_passRound_50 : decode cX0_passRound 50 = .ok (.aaload, 1) := by decide +kernel
theorem dX0_passRound_51 : decode cX0_passRound 51 = .ok (.iconst 0, 1) := by decide +kernel
theorem dX0_passRound_52 : decode cX0_passRound 52 = .ok (.aload_n 0, 1) := by decide +kernel
theorem dX0_passRound_53 : decode cX0_passRound 53 = .ok (.getfield 11, 3) := by decide +kernel
theorem dX0_passRound_56 : decode cX0_passRound 56 = .ok (.iload_n 2, 1) := by decide +kernel
theorem dX0_passRound_57 : decode cX0_passRound 57 = .ok (.aaload, 1) := by decide +kernel
theorem dX0_passRound_58 : decode cX0_passRound 58 = .ok (.iconst 0, 1) := by decide +kernel
theorem dX0_passRound_59 : decode cX0_passRound 59 = .ok (.bipush 96, 2) := by decide +kernel
theorem dX0_passRound_61 : decode cX0_passRound 61 = .ok (.invokestatic 27, 3) := by decide +kernel
theorem dX0_passRound_64 : decode cX0_passRound 64 = .ok (.aload_n 0, 1) := by decide +kernel
theorem dX0_passRound_65 : decode cX0_passRound 65 = .ok (.getfield 16, 3) := by decide +kernel
theorem dX0_passRound_68 : decode cX0_passRound 68 = .ok (.iload_n 2, 1) := by decide +kernel
theorem dX0_passRound_69 : decode cX0_passRound 69 = .ok (.aaload, 1) := by decide +kernel
theorem dX0_passRound_70 : decode cX0_passRound 70 = .ok (.iconst 0, 1) := by decide +kernel
theorem dX0_passRound_71 : decode cX0_passRound 71 = .ok (.invokestatic 33, 3) := by decide +kernel
theorem dX0_passRound_74 : decode cX0_passRound 74 = .ok (.iinc 2 1, 3) := by decide +kernel
theorem dX0_passRound_77 : decode cX0_passRound 77 = .ok (.goto (-37), 3) := by decide +kernel
theorem dX0_passRound_80 : decode cX0_passRound 80 = .ok (.aload_n 0, 1) := by decide +kernel
theorem dX0_passRound_81 : decode cX0_passRound 81 = .ok (.dup, 1) := by decide +kernel
theorem dX0_passRound_82 : decode cX0_passRound 82 = .ok (.getfield 39, 3) := by decide +kernel
theorem dX0_passRound_85 : decode cX0_passRound 85 = .ok (.lconst 1, 1) := by decide +kernel
theorem dX0_passRound_86 : decode cX0_passRound 86 = .ok (.ladd, 1) := by decide +kernel
theorem dX0_passRound_87 : decode cX0_passRound 87 = .ok (.putfield 39, 3) := by decide +kernel
theorem dX0_passRound_90 : decode cX0_passRound 90 = .ok (.return_, 1) := by decide +kernel
theorem dX0_evenOut_0 : decode cX0_evenOut 0 = .ok (.aload_n 0, 1) := by decide +kernel
theorem dX0_evenOut_1 : decode cX0_evenOut 1 = .ok (.getfield 11, 3) := by decide +kernel
theorem dX0_evenOut_4 : decode cX0_evenOut 4 = .ok (.iconst 0, 1) := by decide +kernel
theorem dX0_evenOut_5 : decode cX0_evenOut 5 = .ok (.aaload, 1) := by decide +kernel
theorem dX0_evenOut_6 : decode cX0_evenOut 6 = .ok (.iload_n 1, 1) := by decide +kernel
theorem dX0_evenOut_7 : decode cX0_evenOut 7 = .ok (.iaload, 1) := by decide +kernel
theorem dX0_evenOut_8 : decode cX0_evenOut 8 = .ok (.aload_n 0, 1) := by decide +kernel
theorem dX0_evenOut_9 : decode cX0_evenOut 9 = .ok (.getfield 11, 3) := by decide +kernel
theorem dX0_evenOut_12 : decode cX0_evenOut 12 = .ok (.iconst 2, 1) := by decide +kernel
theorem dX0_evenOut_13 : decode cX0_evenOut 13 = .ok (.aaload, 1) := by decide +kernel
theorem dX0_evenOut_14 : decode cX0_evenOut 14 = .ok (.iload_n 1, 1) := by decide +kernel
theorem dX0_evenOut_15 : decode cX0_evenOut 15 = .ok (.iaload, 1) := by decide +kernel
theorem dX0_evenOut_16 : decode cX0_evenOut 16 = .ok (.iadd, 1) := by decide +kernel
theorem dX0_evenOut_17 : decode cX0_evenOut 17 = .ok (.istore_n 2, 1) := by decide +kernel
theorem dX0_evenOut_18 : decode cX0_evenOut 18 = .ok (.aload_n 0, 1) := by decide +kernel
theorem dX0_evenOut_19 : decode cX0_evenOut 19 = .ok (.getfield 11, 3) := by decide +kernel
theorem dX0_evenOut_22 : decode cX0_evenOut 22 = .ok (.iconst 1, 1) := by decide +kernel
theorem dX0_evenOut_23 : decode cX0_evenOut 23 = .ok (.aaload, 1) := by decide +kernel
theorem dX0_evenOut_24 : decode cX0_evenOut 24 = .ok (.iload_n 1, 1) := by decide +kernel
theorem dX0_evenOut_25 : decode cX0_evenOut 25 = .ok (.iaload, 1) := by decide +kernel
theorem dX0_evenOut_26 : decode cX0_evenOut 26 = .ok (.aload_n 0, 1) := by decide +kernel
theorem dX0_evenOut_27 : decode cX0_evenOut 27 = .ok (.getfield 11, 3) := by decide +kernel
theorem dX0_evenOut_30 : decode cX0_evenOut 30 = .ok (.iconst 3, 1) := by decide +kernel
theorem dX0_evenOut_31 : decode cX0_evenOut 31 = .ok (.aaload, 1) := by decide +kernel
theorem dX0_evenOut_32 : decode cX0_evenOut 32 = .ok (.iload_n 1, 1) := by decide +kernel
theorem dX0_evenOut_33 : decode cX0_evenOut 33 = .ok (.iaload, 1) := by decide +kernel
theorem dX0_evenOut_34 : decode cX0_evenOut 34 = .ok (.iadd, 1) := by decide +kernel
theorem dX0_evenOut_35 : decode cX0_evenOut 35 = .ok (.istore_n 3, 1) := by decide +kernel
theorem dX0_evenOut_36 : decode cX0_evenOut 36 = .ok (.iload_n 2, 1) := by decide +kernel
theorem dX0_evenOut_37 : decode cX0_evenOut 37 = .ok (.iload_n 3, 1) := by decide +kernel
theorem dX0_evenOut_38 : decode cX0_evenOut 38 = .ok (.isub, 1) := by decide +kernel
theorem dX0_evenOut_39 : decode cX0_evenOut 39 = .ok (.iconst 4, 1) := by decide +kernel
theorem dX0_evenOut_40 : decode cX0_evenOut 40 = .ok (.idiv, 1) := by decide +kernel
theorem dX0_evenOut_41 : decode cX0_evenOut 41 = .ok (.istore 4, 2) := by decide +kernel
theorem dX0_evenOut_43 : decode cX0_evenOut 43 = .ok (.iload 4, 2) := by decide +kernel
theorem dX0_evenOut_45 : decode cX0_evenOut 45 = .ok (.ifCond .le 39, 3) := by decide +kernel
theorem dX0_evenOut_48 : decode cX0_evenOut 48 = .ok (.aload_n 0, 1) := by decide +kernel
theorem dX0_evenOut_49 : decode cX0_evenOut 49 = .ok (.getfield 11, 3) := by decide +kernel
theorem dX0_evenOut_52 : decode cX0_evenOut 52 = .ok (.iconst 0, 1) := by decide +kernel
theorem dX0_evenOut_53 : decode cX0_evenOut 53 = .ok (.aaload, 1) := by decide +kernel
theorem dX0_evenOut_54 : decode cX0_evenOut 54 = .ok (.iload_n 1, 1) := by decide +kernel
theorem dX0_evenOut_55 : decode cX0_evenOut 55 = .ok (.iaload, 1) := by decide +kernel
theorem dX0_evenOut_56 : decode cX0_evenOut 56 = .ok (.aload_n 0, 1) := by decide +kernel
theorem dX0_evenOut_57 : decode cX0_evenOut 57 = .ok (.getfield 11, 3) := by decide +kernel
theorem dX0_evenOut_60 : decode cX0_evenOut 60 = .ok (.iconst 2, 1) := by decide +kernel
theorem dX0_evenOut_61 : decode cX0_evenOut 61 = .ok (.aaload, 1) := by decide +kernel
theorem dX0_evenOut_62 : decode cX0_evenOut 62 = .ok (.iload_n 1, 1) := by decide +kernel
theorem dX0_evenOut_63 : decode cX0_evenOut 63 = .ok (.iaload, 1) := by decide +kernel
theorem dX0_evenOut_64 : decode cX0_evenOut 64 = .ok (.invokestatic 43, 3) := by decide +kernel
theorem dX0_evenOut_67 : decode cX0_evenOut 67 = .ok (.istore 5, 2) := by decide +kernel
theorem dX0_evenOut_69 : decode cX0_evenOut 69 = .ok (.aload_n 0, 1) := by decide +kernel
theorem dX0_evenOut_70 : decode cX0_evenOut 70 = .ok (.iload_n 1, 1) := by decide +kernel
theorem dX0_evenOut_71 : decode cX0_evenOut 71 = .ok (.iload 4, 2) := by decide +kernel
theorem dX0_evenOut_73 : decode cX0_evenOut 73 = .ok (.iload 5, 2) := by decide +kernel
theorem dX0_evenOut_75 : decode cX0_evenOut 75 = .ok (.invokestatic 43, 3) := by decide +kernel
theorem dX0_evenOut_78 : decode cX0_evenOut 78 = .ok (.invokevirtual 49, 3) := by decide +kernel
theorem dX0_evenOut_81 : decode cX0_evenOut 81 = .ok (.goto 43, 3) := by decide +kernel
theorem dX0_evenOut_84 : decode cX0_evenOut 84 = .ok (.iload 4, 2) := by decide +kernel
theorem dX0_evenOut_86 : decode cX0_evenOut 86 = .ok (.ifCond .ge 38, 3) := by decide +kernel
theorem dX0_evenOut_89 : decode cX0_evenOut 89 = .ok (.aload_n 0, 1) := by decide +kernel
theorem dX0_evenOut_90 : decode cX0_evenOut 90 = .ok (.getfield 11, 3) := by decide +kernel
theorem dX0_evenOut_93 : decode cX0_evenOut 93 = .ok (.iconst 1, 1) := by decide +kernel
theorem dX0_evenOut_94 : decode cX0_evenOut 94 = .ok (.aaload, 1) := by decide +kernel
theorem dX0_evenOut_95 : decode cX0_evenOut 95 = .ok (.iload_n 1, 1) := by decide +kernel
theorem dX0_evenOut_96 : decode cX0_evenOut 96 = .ok (.iaload, 1) := by decide +kernel
theorem dX0_evenOut_97 : decode cX0_evenOut 97 = .ok (.aload_n 0, 1) := by decide +kernel
theorem dX0_evenOut_98 : decode cX0_evenOut 98 = .ok (.getfield 11, 3) := by decide +kernel
theorem dX0_evenOut_101 : decode cX0_evenOut 101 = .ok (.iconst 3, 1) := by decide +kernel
theorem dX0_evenOut_102 : decode cX0_evenOut 102 = .ok (.aaload, 1) := by decide +kernel
theorem dX0_evenOut_103 : decode cX0_evenOut 103 = .ok (.iload_n 1, 1) := by decide +kernel
theorem dX0_evenOut_104 : decode cX0_evenOut 104 = .ok (.iaload, 1) := by decide +kernel
theorem dX0_evenOut_105 : decode cX0_evenOut 105 = .ok (.invokestatic 43, 3) := by decide +kernel
theorem dX0_evenOut_108 : decode cX0_evenOut 108 = .ok (.istore 5, 2) := by decide +kernel
theorem dX0_evenOut_110 : decode cX0_evenOut 110 = .ok (.aload_n 0, 1) := by decide +kernel
theorem dX0_evenOut_111 : decode cX0_evenOut 111 = .ok (.iload_n 1, 1) := by decide +kernel
theorem dX0_evenOut_112 : decode cX0_evenOut 112 = .ok (.iload 4, 2) := by decide +kernel
theorem dX0_evenOut_114 : decode cX0_evenOut 114 = .ok (.ineg, 1) := by decide +kernel
theorem dX0_evenOut_115 : decode cX0_evenOut 115 = .ok (.iload 5, 2) := by decide +kernel
theorem dX0_evenOut_117 : decode cX0_evenOut 117 = .ok (.invokestatic 43, 3) := by decide +kernel
theorem dX0_evenOut_120 : decode cX0_evenOut 120 = .ok (.ineg, 1) := by decide +kernel
theorem dX0_evenOut_121 : decode cX0_evenOut 121 = .ok (.invokevirtual 49, 3) := by decide +kernel
theorem dX0_evenOut_124 : decode cX0_evenOut 124 = .ok (.return_, 1) := by decide +kernel
theorem dX0_shiftToUpright_0 : decode cX0_shiftToUpright 0 = .ok (.aload_n 0, 1) := by decide +kernel
theorem dX0_shiftToUpright_1 : decode cX0_shiftToUpright 1 = .ok (.getfield 11, 3) := by decide +kernel
theorem dX0_shiftToUpright_4 : decode cX0_shiftToUpright 4 = .ok (.iconst 0, 1) := by decide +kernel
theorem dX0_shiftToUpright_5 : decode cX0_shiftToUpright 5 = .ok (.aaload, 1) := by decide +kernel
theorem dX0_shiftToUpright_6 : decode cX0_shiftToUpright 6 = .ok (.iload_n 1, 1) := by decide +kernel
theorem dX0_shiftToUpright_7 : decode cX0_shiftToUpright 7 = .ok (.dup2, 1) := by decide +kernel
theorem dX0_shiftToUpright_8 : decode cX0_shiftToUpright 8 = .ok (.iaload, 1) := by decide +kernel
theorem dX0_shiftToUpright_9 : decode cX0_shiftToUpright 9 = .ok (.iload_n 2, 1) := by decide +kernel
theorem dX0_shiftToUpright_10 : decode cX0_shiftToUpright 10 = .ok (.isub, 1) := by decide +kernel
theorem dX0_shiftToUpright_11 : decode cX0_shiftToUpright 11 = .ok (.iastore, 1) := by decide +kernel
theorem dX0_shiftToUpright_12 : decode cX0_shiftToUpright 12 = .ok (.aload_n 0, 1) := by decide +kernel
theorem dX0_shiftToUpright_13 : decode cX0_shiftToUpright 13 = .ok (.getfield 11, 3) := by decide +kernel
theorem dX0_shiftToUpright_16 : decode cX0_shiftToUpright 16 = .ok (.iconst 2, 1) := by decide +kernel
theorem dX0_shiftToUpright_17 : decode cX0_shiftToUpright 17 = .ok (.aaload, 1) := by decide +kernel
theorem dX0_shiftToUpright_18 : decode cX0_shiftToUpright 18 = .ok (.iload_n 1, 1) := by decide +kernel
theorem dX0_shiftToUpright_19 : decode cX0_shiftToUpright 19 = .ok (.dup2, 1) := by decide +kernel
theorem dX0_shiftToUpright_20 : decode cX0_shiftToUpright 20 = .ok (.iaload, 1) := by decide +kernel
theorem dX0_shiftToUpright_21 : decode cX0_shiftToUpright 21 = .ok (.iload_n 2, 1) := by decide +kernel
theorem dX0_shiftToUpright_22 : decode cX0_shiftToUpright 22 = .ok (.isub, 1) := by decide +kernel
theorem dX0_shiftToUpright_23 : decode cX0_shiftToUpright 23 = .ok (.iastore, 1) := by decide +kernel
theorem dX0_shiftToUpright_24 : decode cX0_shiftToUpright 24 = .ok (.aload_n 0, 1) := by decide +kernel
theorem dX0_shiftToUpright_25 : decode cX0_shiftToUpright 25 = .ok (.getfield 11, 3) := by decide +kernel
theorem dX0_shiftToUpright_28 : decode cX0_shiftToUpright 28 = .ok (.iconst 1, 1) := by decide +kernel
theorem dX0_shiftToUpright_29 : decode cX0_shiftToUpright 29 = .ok (.aaload, 1) := by decide +kernel
theorem dX0_shiftToUpright_30 : decode cX0_shiftToUpright 30 = .ok (.iload_n 1, 1) := by decide +kernel
theorem dX0_shiftToUpright_31 : decode cX0_shiftToUpright 31 = .ok (.dup2, 1) := by decide +kernel
theorem dX0_shiftToUpright_32 : decode cX0_shiftToUpright 32 = .ok (.iaload, 1) := by decide +kernel
theorem dX0_shiftToUpright_33 : decode cX0_shiftToUpright 33 = .ok (.iload_n 2, 1) := by decide +kernel
theorem dX0_shiftToUpright_34 : decode cX0_shiftToUpright 34 = .ok (.iadd, 1) := by decide +kernel
theorem dX0_shiftToUpright_35 : decode cX0_shiftToUpright 35 = .ok (.iastore, 1) := by decide +kernel
theorem dX0_shiftToUpright_36 : decode cX0_shiftToUpright 36 = .ok (.aload_n 0, 1) := by decide +kernel
theorem dX0_shiftToUpright_37 : decode cX0_shiftToUpright 37 = .ok (.getfield 11, 3) := by decide +kernel
theorem dX0_shiftToUpright_40 : decode cX0_shiftToUpright 40 = .ok (.iconst 3, 1) := by decide +kernel
theorem dX0_shiftToUpright_41 : decode cX0_shiftToUpright 41 = .ok (.aaload, 1) := by decide +kernel
theorem dX0_shiftToUpright_42 : decode cX0_shiftToUpright 42 = .ok (.iload_n 1, 1) := by decide +kernel
theorem dX0_shiftToUpright_43 : decode cX0_shiftToUpright 43 = .ok (.dup2, 1) := by decide +kernel
theorem dX0_shiftToUpright_44 : decode cX0_shiftToUpright 44 = .ok (.iaload, 1) := by decide +kernel
theorem dX0_shiftToUpright_45 : decode cX0_shiftToUpright 45 = .ok (.iload_n 2, 1) := by decide +kernel
theorem dX0_shiftToUpright_46 : decode cX0_shiftToUpright 46 = .ok (.iadd, 1) := by decide +kernel
theorem dX0_shiftToUpright_47 : decode cX0_shiftToUpright 47 = .ok (.iastore, 1) := by decide +kernel
theorem dX0_shiftToUpright_48 : decode cX0_shiftToUpright 48 = .ok (.return_, 1) := by decide +kernel
theorem dX0_moveAll_0 : decode cX0_moveAll 0 = .ok (.iconst 0, 1) := by decide +kernel
theorem dX0_moveAll_1 : decode cX0_moveAll 1 = .ok (.istore_n 3, 1) := by decide +kernel
theorem dX0_moveAll_2 : decode cX0_moveAll 2 = .ok (.iload_n 3, 1) := by decide +kernel
theorem dX0_moveAll_3 : decode cX0_moveAll 3 = .ok (.bipush 96, 2) := by decide +kernel
theorem dX0_moveAll_5 : decode cX0_moveAll 5 = .ok (.if_icmp .ge 70, 3) := by decide +kernel
theorem dX0_moveAll_8 : decode cX0_moveAll 8 = .ok (.iload_n 3, 1) := by decide +kernel
theorem dX0_moveAll_9 : decode cX0_moveAll 9 = .ok (.iload_n 2, 1) := by decide +kernel
theorem dX0_moveAll_10 : decode cX0_moveAll 10 = .ok (.invokestatic 53, 3) := by decide +kernel
theorem dX0_moveAll_13 : decode cX0_moveAll 13 = .ok (.istore 4, 2) := by decide +kernel
theorem dX0_moveAll_15 : decode cX0_moveAll 15 = .ok (.aload_n 1, 1) := by decide +kernel
theorem dX0_moveAll_16 : decode cX0_moveAll 16 = .ok (.iload 4, 2) := by decide +kernel
theorem dX0_moveAll_18 : decode cX0_moveAll 18 = .ok (.invokevirtual 56, 3) := by decide +kernel
theorem dX0_moveAll_21 : decode cX0_moveAll 21 = .ok (.ifCond .eq 28, 3) := by decide +kernel
theorem dX0_moveAll_24 : decode cX0_moveAll 24 = .ok (.aload_n 0, 1) := by decide +kernel
theorem dX0_moveAll_25 : decode cX0_moveAll 25 = .ok (.getfield 16, 3) := by decide +kernel
theorem dX0_moveAll_28 : decode cX0_moveAll 28 = .ok (.iload_n 2, 1) := by decide +kernel
theorem dX0_moveAll_29 : decode cX0_moveAll 29 = .ok (.invokestatic 62, 3) := by decide +kernel
theorem dX0_moveAll_32 : decode cX0_moveAll 32 = .ok (.aaload, 1) := by decide +kernel
theorem dX0_moveAll_33 : decode cX0_moveAll 33 = .ok (.iload_n 3, 1) := by decide +kernel
theorem dX0_moveAll_34 : decode cX0_moveAll 34 = .ok (.dup2, 1) := by decide +kernel
theorem dX0_moveAll_35 : decode cX0_moveAll 35 = .ok (.iaload, 1) := by decide +kernel
theorem dX0_moveAll_36 : decode cX0_moveAll 36 = .ok (.aload_n 0, 1) := by decide +kernel
theorem dX0_moveAll_37 : decode cX0_moveAll 37 = .ok (.getfield 11, 3) := by decide +kernel
theorem dX0_moveAll_40 : decode cX0_moveAll 40 = .ok (.iload_n 2, 1) := by decide +kernel
theorem dX0_moveAll_41 : decode cX0_moveAll 41 = .ok (.aaload, 1) := by decide +kernel
theorem dX0_moveAll_42 : decode cX0_moveAll 42 = .ok (.iload_n 3, 1) := by decide +kernel
theorem dX0_moveAll_43 : decode cX0_moveAll 43 = .ok (.iaload, 1) := by decide +kernel
theorem dX0_moveAll_44 : decode cX0_moveAll 44 = .ok (.iadd, 1) := by decide +kernel
theorem dX0_moveAll_45 : decode cX0_moveAll 45 = .ok (.iastore, 1) := by decide +kernel
theorem dX0_moveAll_46 : decode cX0_moveAll 46 = .ok (.goto 23, 3) := by decide +kernel
theorem dX0_moveAll_49 : decode cX0_moveAll 49 = .ok (.aload_n 0, 1) := by decide +kernel
theorem dX0_moveAll_50 : decode cX0_moveAll 50 = .ok (.getfield 16, 3) := by decide +kernel
theorem dX0_moveAll_53 : decode cX0_moveAll 53 = .ok (.iload_n 2, 1) := by decide +kernel
theorem dX0_moveAll_54 : decode cX0_moveAll 54 = .ok (.aaload, 1) := by decide +kernel
theorem dX0_moveAll_55 : decode cX0_moveAll 55 = .ok (.iload 4, 2) := by decide +kernel
theorem dX0_moveAll_57 : decode cX0_moveAll 57 = .ok (.dup2, 1) := by decide +kernel
theorem dX0_moveAll_58 : decode cX0_moveAll 58 = .ok (.iaload, 1) := by decide +kernel
theorem dX0_moveAll_59 : decode cX0_moveAll 59 = .ok (.aload_n 0, 1) := by decide +kernel
theorem dX0_moveAll_60 : decode cX0_moveAll 60 = .ok (.getfield 11, 3) := by decide +kernel
theorem dX0_moveAll_63 : decode cX0_moveAll 63 = .ok (.iload_n 2, 1) := by decide +kernel
theorem dX0_moveAll_64 : decode cX0_moveAll 64 = .ok (.aaload, 1) := by decide +kernel
theorem dX0_moveAll_65 : decode cX0_moveAll 65 = .ok (.iload_n 3, 1) := by decide +kernel
theorem dX0_moveAll_66 : decode cX0_moveAll 66 = .ok (.iaload, 1) := by decide +kernel
theorem dX0_moveAll_67 : decode cX0_moveAll 67 = .ok (.iadd, 1) := by decide +kernel
theorem dX0_moveAll_68 : decode cX0_moveAll 68 = .ok (.iastore, 1) := by decide +kernel
theorem dX0_moveAll_69 : decode cX0_moveAll 69 = .ok (.iinc 3 1, 3) := by decide +kernel
theorem dX0_moveAll_72 : decode cX0_moveAll 72 = .ok (.goto (-70), 3) := by decide +kernel
theorem dX0_moveAll_75 : decode cX0_moveAll 75 = .ok (.return_, 1) := by decide +kernel
theorem dX1_init_0 : decode cX1_init 0 = .ok (.aload_n 0, 1) := by decide +kernel
theorem dX1_init_1 : decode cX1_init 1 = .ok (.invokespecial 3, 3) := by decide +kernel
theorem dX1_init_4 : decode cX1_init 4 = .ok (.aload_n 0, 1) := by decide +kernel
theorem dX1_init_5 : decode cX1_init 5 = .ok (.iconst 4, 1) := by decide +kernel
theorem dX1_init_6 : decode cX1_init 6 = .ok (.newarray .int, 2) := by decide +kernel
theorem dX1_init_8 : decode cX1_init 8 = .ok (.putfield 9, 3) := by decide +kernel
theorem dX1_init_11 : decode cX1_init 11 = .ok (.aload_n 0, 1) := by decide +kernel
theorem dX1_init_12 : decode cX1_init 12 = .ok (.iconst 4, 1) := by decide +kernel
theorem dX1_init_13 : decode cX1_init 13 = .ok (.newarray .int, 2) := by decide +kernel
theorem dX1_init_15 : decode cX1_init 15 = .ok (.putfield 15, 3) := by decide +kernel
theorem dX1_init_18 : decode cX1_init 18 = .ok (.aload_n 0, 1) := by decide +kernel
theorem dX1_init_19 : decode cX1_init 19 = .ok (.iconst 4, 1) := by decide +kernel
theorem dX1_init_20 : decode cX1_init 20 = .ok (.sipush 5000, 3) := by decide +kernel
theorem dX1_init_23 : decode cX1_init 23 = .ok (.multianewarray 18 2, 4) := by decide +kernel
theorem dX1_init_27 : decode cX1_init 27 = .ok (.putfield 20, 3) := by decide +kernel
theorem dX1_init_30 : decode cX1_init 30 = .ok (.return_, 1) := by decide +kernel
theorem dX1_setInto_0 : decode cX1_setInto 0 = .ok (.aload_n 0, 1) := by decide +kernel
theorem dX1_setInto_1 : decode cX1_setInto 1 = .ok (.getfield 23, 3) := by decide +kernel
theorem dX1_setInto_4 : decode cX1_setInto 4 = .ok (.iconst 4, 1) := by decide +kernel
theorem dX1_setInto_5 : decode cX1_setInto 5 = .ok (.if_icmp .lt 5, 3) := by decide +kernel
theorem dX1_setInto_8 : decode cX1_setInto 8 = .ok (.iconst (-1), 1) := by decide +kernel
theorem dX1_setInto_9 : decode cX1_setInto 9 = .ok (.ireturn, 1) := by decide +kernel
theorem dX1_setInto_10 : decode cX1_setInto 10 = .ok (.aload_n 0, 1) := by decide +kernel
theorem dX1_setInto_11 : decode cX1_setInto 11 = .ok (.getfield 9, 3) := by decide +kernel
theorem dX1_setInto_14 : decode cX1_setInto 14 = .ok (.aload_n 0, 1) := by decide +kernel
theorem dX1_setInto_15 : decode cX1_setInto 15 = .ok (.getfield 23, 3) := by decide +kernel
theorem dX1_setInto_18 : decode cX1_setInto 18 = .ok (.iload_n 1, 1) := by decide +kernel
theorem dX1_setInto_19 : decode cX1_setInto 19 = .ok (.iastore, 1) := by decide +kernel
theorem dX1_setInto_20 : decode cX1_setInto 20 = .ok (.aload_n 0, 1) := by decide +kernel
theorem dX1_setInto_21 : decode cX1_setInto 21 = .ok (.dup, 1) := by decide +kernel
theorem dX1_setInto_22 : decode cX1_setInto 22 = .ok (.getfield 23, 3) := by decide +kernel
theorem dX1_setInto_25 : decode cX1_setInto 25 = .ok (.iconst 1, 1) := by decide +kernel
theorem dX1_setInto_26 : decode cX1_setInto 26 = .ok (.iadd, 1) := by decide +kernel
theorem dX1_setInto_27 : decode cX1_setInto 27 = .ok (.putfield 23, 3) := by decide +kernel
theorem dX1_setInto_30 : decode cX1_setInto 30 = .ok (.aload_n 0, 1) := by decide +kernel
theorem dX1_setInto_31 : decode cX1_setInto 31 = .ok (.getfield 23, 3) := by decide +kernel
theorem dX1_setInto_34 : decode cX1_setInto 34 = .ok (.iconst 1, 1) := by decide +kernel
theorem dX1_setInto_35 : decode cX1_setInto 35 = .ok (.isub, 1) := by decide +kernel
theorem dX1_setInto_36 : decode cX1_setInto 36 = .ok (.ireturn, 1) := by decide +kernel
theorem dX1_areAt_0 : decode cX1_areAt 0 = .ok (.iconst 0, 1) := by decide +kernel
theorem dX1_areAt_1 : decode cX1_areAt 1 = .ok (.istore_n 2, 1) := by decide +kernel
theorem dX1_areAt_2 : decode cX1_areAt 2 = .ok (.iload_n 2, 1) := by decide +kernel
theorem dX1_areAt_3 : decode cX1_areAt 3 = .ok (.aload_n 0, 1) := by decide +kernel
theorem dX1_areAt_4 : decode cX1_areAt 4 = .ok (.getfield 23, 3) := by decide +kernel
theorem dX1_areAt_7 : decode cX1_areAt 7 = .ok (.if_icmp .ge 26, 3) := by decide +kernel
theorem dX1_areAt_10 : decode cX1_areAt 10 = .ok (.iload_n 2, 1) := by decide +kernel
theorem dX1_areAt_11 : decode cX1_areAt 11 = .ok (.iconst 4, 1) := by decide +kernel
theorem dX1_areAt_12 : decode cX1_areAt 12 = .ok (.if_icmp .ge 21, 3) := by decide +kernel
theorem dX1_areAt_15 : decode cX1_areAt 15 = .ok (.aload_n 0, 1) := by decide +kernel
theorem dX1_areAt_16 : decode cX1_areAt 16 = .ok (.getfield 9, 3) := by decide +kernel
theorem dX1_areAt_19 : decode cX1_areAt 19 = .ok (.iload_n 2, 1) := by decide +kernel
theorem dX1_areAt_20 : decode cX1_areAt 20 = .ok (.iaload, 1) := by decide +kernel
theorem dX1_areAt_21 : decode cX1_areAt 21 = .ok (.iload_n 1, 1) := by decide +kernel
theorem dX1_areAt_22 : decode cX1_areAt 22 = .ok (.if_icmp .ne 5, 3) := by decide +kernel
theorem dX1_areAt_25 : decode cX1_areAt 25 = .ok (.iconst 1, 1) := by decide +kernel
theorem dX1_areAt_26 : decode cX1_areAt 26 = .ok (.ireturn, 1) := by decide +kernel
theorem dX1_areAt_27 : decode cX1_areAt 27 = .ok (.iinc 2 1, 3) := by decide +kernel
theorem dX1_areAt_30 : decode cX1_areAt 30 = .ok (.goto (-28), 3) := by decide +kernel
theorem dX1_areAt_33 : decode cX1_areAt 33 = .ok (.iconst 0, 1) := by decide +kernel
theorem dX1_areAt_34 : decode cX1_areAt 34 = .ok (.ireturn, 1) := by decide +kernel
theorem dX1_recordAll_0 : decode cX1_recordAll 0 = .ok (.iconst 0, 1) := by decide +kernel
theorem dX1_recordAll_1 : decode cX1_recordAll 1 = .ok (.istore_n 2, 1) := by decide +kernel
theorem dX1_recordAll_2 : decode cX1_recordAll 2 = .ok (.iload_n 2, 1) := by decide +kernel
theorem dX1_recordAll_3 : decode cX1_recordAll 3 = .ok (.aload_n 0, 1) := by decide +kernel
theorem dX1_recordAll_4 : decode cX1_recordAll 4 = .ok (.getfield 23, 3) := by decide +kernel
theorem dX1_recordAll_7 : decode cX1_recordAll 7 = .ok (.if_icmp .ge 61, 3) := by decide +kernel
theorem dX1_recordAll_10 : decode cX1_recordAll 10 = .ok (.iload_n 2, 1) := by decide +kernel
theorem dX1_recordAll_11 : decode cX1_recordAll 11 = .ok (.iconst 4, 1) := by decide +kernel
theorem dX1_recordAll_12 : decode cX1_recordAll 12 = .ok (.if_icmp .ge 56, 3) := by decide +kernel
theorem dX1_recordAll_15 : decode cX1_recordAll 15 = .ok (.aload_n 0, 1) := by decide +kernel
theorem dX1_recordAll_16 : decode cX1_recordAll 16 = .ok (.getfield 15, 3) := by decide +kernel
theorem dX1_recordAll_19 : decode cX1_recordAll 19 = .ok (.iload_n 2, 1) := by decide +kernel
theorem dX1_recordAll_20 : decode cX1_recordAll 20 = .ok (.iaload, 1) := by decide +kernel
theorem dX1_recordAll_21 : decode cX1_recordAll 21 = .ok (.sipush 5000, 3) := by decide +kernel
theorem dX1_recordAll_24 : decode cX1_recordAll 24 = .ok (.if_icmp .ge 38, 3) := by decide +kernel
theorem dX1_recordAll_27 : decode cX1_recordAll 27 = .ok (.aload_n 0, 1) := by decide +kernel
theorem dX1_recordAll_28 : decode cX1_recordAll 28 = .ok (.getfield 20, 3) := by decide +kernel
theorem dX1_recordAll_31 : decode cX1_recordAll 31 = .ok (.iload_n 2, 1) := by decide +kernel
theorem dX1_recordAll_32 : decode cX1_recordAll 32 = .ok (.aaload, 1) := by decide +kernel
theorem dX1_recordAll_33 : decode cX1_recordAll 33 = .ok (.aload_n 0, 1) := by decide +kernel
theorem dX1_recordAll_34 : decode cX1_recordAll 34 = .ok (.getfield 15, 3) := by decide +kernel
theorem dX1_recordAll_37 : decode cX1_recordAll 37 = .ok (.iload_n 2, 1) := by decide +kernel
theorem dX1_recordAll_38 : decode cX1_recordAll 38 = .ok (.iaload, 1) := by decide +kernel
theorem dX1_recordAll_39 : decode cX1_recordAll 39 = .ok (.aload_n 1, 1) := by decide +kernel
theorem dX1_recordAll_40 : decode cX1_recordAll 40 = .ok (.aload_n 0, 1) := by decide +kernel
theorem dX1_recordAll_41 : decode cX1_recordAll 41 = .ok (.getfield 9, 3) := by decide +kernel
theorem dX1_recordAll_44 : decode cX1_recordAll 44 = .ok (.iload_n 2, 1) := by decide +kernel
theorem dX1_recordAll_45 : decode cX1_recordAll 45 = .ok (.iaload, 1) := by decide +kernel
theorem dX1_recordAll_46 : decode cX1_recordAll 46 = .ok (.iconst 1, 1) := by decide +kernel
theorem dX1_recordAll_47 : decode cX1_recordAll 47 = .ok (.invokevirtual 27, 3) := by decide +kernel
theorem dX1_recordAll_50 : decode cX1_recordAll 50 = .ok (.i2b, 1) := by decide +kernel
theorem dX1_recordAll_51 : decode cX1_recordAll 51 = .ok (.bastore, 1) := by decide +kernel
theorem dX1_recordAll_52 : decode cX1_recordAll 52 = .ok (.aload_n 0, 1) := by decide +kernel
theorem dX1_recordAll_53 : decode cX1_recordAll 53 = .ok (.getfield 15, 3) := by decide +kernel
theorem dX1_recordAll_56 : decode cX1_recordAll 56 = .ok (.iload_n 2, 1) := by decide +kernel
theorem dX1_recordAll_57 : decode cX1_recordAll 57 = .ok (.dup2, 1) := by decide +kernel
theorem dX1_recordAll_58 : decode cX1_recordAll 58 = .ok (.iaload, 1) := by decide +kernel
theorem dX1_recordAll_59 : decode cX1_recordAll 59 = .ok (.iconst 1, 1) := by decide +kernel
theorem dX1_recordAll_60 : decode cX1_recordAll 60 = .ok (.iadd, 1) := by decide +kernel
theorem dX1_recordAll_61 : decode cX1_recordAll 61 = .ok (.iastore, 1) := by decide +kernel
theorem dX1_recordAll_62 : decode cX1_recordAll 62 = .ok (.iinc 2 1, 3) := by decide +kernel
theorem dX1_recordAll_65 : decode cX1_recordAll 65 = .ok (.goto (-63), 3) := by decide +kernel
theorem dX1_recordAll_68 : decode cX1_recordAll 68 = .ok (.return_, 1) := by decide +kernel
theorem dX1_loseLatest_0 : decode cX1_loseLatest 0 = .ok (.iconst 0, 1) := by decide +kernel
theorem dX1_loseLatest_1 : decode cX1_loseLatest 1 = .ok (.istore_n 1, 1) := by decide +kernel
theorem dX1_loseLatest_2 : decode cX1_loseLatest 2 = .ok (.iload_n 1, 1) := by decide +kernel
theorem dX1_loseLatest_3 : decode cX1_loseLatest 3 = .ok (.aload_n 0, 1) := by decide +kernel
theorem dX1_loseLatest_4 : decode cX1_loseLatest 4 = .ok (.getfield 23, 3) := by decide +kernel
theorem dX1_loseLatest_7 : decode cX1_loseLatest 7 = .ok (.if_icmp .ge 33, 3) := by decide +kernel
theorem dX1_loseLatest_10 : decode cX1_loseLatest 10 = .ok (.iload_n 1, 1) := by decide +kernel
theorem dX1_loseLatest_11 : decode cX1_loseLatest 11 = .ok (.iconst 4, 1) := by decide +kernel
theorem dX1_loseLatest_12 : decode cX1_loseLatest 12 = .ok (.if_icmp .ge 28, 3) := by decide +kernel
theorem dX1_loseLatest_15 : decode cX1_loseLatest 15 = .ok (.aload_n 0, 1) := by decide +kernel
theorem dX1_loseLatest_16 : decode cX1_loseLatest 16 = .ok (.getfield 15, 3) := by decide +kernel
theorem dX1_loseLatest_19 : decode cX1_loseLatest 19 = .ok (.iload_n 1, 1) := by decide +kernel
theorem dX1_loseLatest_20 : decode cX1_loseLatest 20 = .ok (.iaload, 1) := by decide +kernel
theorem dX1_loseLatest_21 : decode cX1_loseLatest 21 = .ok (.ifCond .le 13, 3) := by decide +kernel
theorem dX1_loseLatest_24 : decode cX1_loseLatest 24 = .ok (.aload_n 0, 1) := by decide +kernel
theorem dX1_loseLatest_25 : decode cX1_loseLatest 25 = .ok (.getfield 15, 3) := by decide +kernel
theorem dX1_loseLatest_28 : decode cX1_loseLatest 28 = .ok (.iload_n 1, 1) := by decide +kernel
theorem dX1_loseLatest_29 : decode cX1_loseLatest 29 = .ok (.dup2, 1) := by decide +kernel
theorem dX1_loseLatest_30 : decode cX1_loseLatest 30 = .ok (.iaload, 1) := by decide +kernel
theorem dX1_loseLatest_31 : decode cX1_loseLatest 31 = .ok (.iconst 1, 1) := by decide +kernel
theorem dX1_loseLatest_32 : decode cX1_loseLatest 32 = .ok (.isub, 1) := by decide +kernel
theorem dX1_loseLatest_33 : decode cX1_loseLatest 33 = .ok (.iastore, 1) := by decide +kernel
theorem dX1_loseLatest_34 : decode cX1_loseLatest 34 = .ok (.iinc 1 1, 3) := by decide +kernel
theorem dX1_loseLatest_37 : decode cX1_loseLatest 37 = .ok (.goto (-35), 3) := by decide +kernel
theorem dX1_loseLatest_40 : decode cX1_loseLatest 40 = .ok (.return_, 1) := by decide +kernel
theorem dX1_changesOfSign_0 : decode cX1_changesOfSign 0 = .ok (.iconst 0, 1) := by decide +kernel
theorem dX1_changesOfSign_1 : decode cX1_changesOfSign 1 = .ok (.istore_n 2, 1) := by decide +kernel
theorem dX1_changesOfSign_2 : decode cX1_changesOfSign 2 = .ok (.iconst 0, 1) := by decide +kernel
theorem dX1_changesOfSign_3 : decode cX1_changesOfSign 3 = .ok (.istore_n 3, 1) := by decide +kernel
theorem dX1_changesOfSign_4 : decode cX1_changesOfSign 4 = .ok (.iconst 0, 1) := by decide +kernel
theorem dX1_changesOfSign_5 : decode cX1_changesOfSign 5 = .ok (.istore 4, 2) := by decide +kernel
theorem dX1_changesOfSign_7 : decode cX1_changesOfSign 7 = .ok (.iload 4, 2) := by decide +kernel
theorem dX1_changesOfSign_9 : decode cX1_changesOfSign 9 = .ok (.aload_n 0, 1) := by decide +kernel
theorem dX1_changesOfSign_10 : decode cX1_changesOfSign 10 = .ok (.getfield 15, 3) := by decide +kernel
theorem dX1_changesOfSign_13 : decode cX1_changesOfSign 13 = .ok (.iload_n 1, 1) := by decide +kernel
theorem dX1_changesOfSign_14 : decode cX1_changesOfSign 14 = .ok (.iaload, 1) := by decide +kernel
theorem dX1_changesOfSign_15 : decode cX1_changesOfSign 15 = .ok (.if_icmp .ge 51, 3) := by decide +kernel
theorem dX1_changesOfSign_18 : decode cX1_changesOfSign 18 = .ok (.iload 4, 2) := by decide +kernel
theorem dX1_changesOfSign_20 : decode cX1_changesOfSign 20 = .ok (.sipush 5000, 3) := by decide +kernel
theorem dX1_changesOfSign_23 : decode cX1_changesOfSign 23 = .ok (.if_icmp .ge 43, 3) := by decide +kernel
theorem dX1_changesOfSign_26 : decode cX1_changesOfSign 26 = .ok (.aload_n 0, 1) := by decide +kernel
theorem dX1_changesOfSign_27 : decode cX1_changesOfSign 27 = .ok (.getfield 20, 3) := by decide +kernel
theorem dX1_changesOfSign_30 : decode cX1_changesOfSign 30 = .ok (.iload_n 1, 1) := by decide +kernel
theorem dX1_changesOfSign_31 : decode cX1_changesOfSign 31 = .ok (.aaload, 1) := by decide +kernel
theorem dX1_changesOfSign_32 : decode cX1_changesOfSign 32 = .ok (.iload 4, 2) := by decide +kernel
theorem dX1_changesOfSign_34 : decode cX1_changesOfSign 34 = .ok (.baload, 1) := by decide +kernel
theorem dX1_changesOfSign_35 : decode cX1_changesOfSign 35 = .ok (.istore 5, 2) := by decide +kernel
theorem dX1_changesOfSign_37 : decode cX1_changesOfSign 37 = .ok (.iload 5, 2) := by decide +kernel
theorem dX1_changesOfSign_39 : decode cX1_changesOfSign 39 = .ok (.ifCond .eq 21, 3) := by decide +kernel
theorem dX1_changesOfSign_42 : decode cX1_changesOfSign 42 = .ok (.iload_n 2, 1) := by decide +kernel
theorem dX1_changesOfSign_43 : decode cX1_changesOfSign 43 = .ok (.iload 5, 2) := by decide +kernel
theorem dX1_changesOfSign_45 : decode cX1_changesOfSign 45 = .ok (.iload_n 3, 1) := by decide +kernel
theorem dX1_changesOfSign_46 : decode cX1_changesOfSign 46 = .ok (.imul, 1) := by decide +kernel
theorem dX1_changesOfSign_47 : decode cX1_changesOfSign 47 = .ok (.ifCond .ge 7, 3) := by decide +kernel
theorem dX1_changesOfSign_50 : decode cX1_changesOfSign 50 = .ok (.iconst 1, 1) := by decide +kernel
theorem dX1_changesOfSign_51 : decode cX1_changesOfSign 51 = .ok (.goto 4, 3) := by decide +kernel
theorem dX1_changesOfSign_54 : decode cX1_changesOfSign 54 = .ok (.iconst 0, 1) := by decide +kernel
theorem dX1_changesOfSign_55 : decode cX1_changesOfSign 55 = .ok (.iadd, 1) := by decide +kernel
theorem dX1_changesOfSign_56 : decode cX1_changesOfSign 56 = .ok (.istore_n 2, 1) := by decide +kernel
theorem dX1_changesOfSign_57 : decode cX1_changesOfSign 57 = .ok (.iload 5, 2) := by decide +kernel
theorem dX1_changesOfSign_59 : decode cX1_changesOfSign 59 = .ok (.istore_n 3, 1) := by decide +kernel
theorem dX1_changesOfSign_60 : decode cX1_changesOfSign 60 = .ok (.iinc 4 1, 3) := by decide +kernel
theorem dX1_changesOfSign_63 : decode cX1_changesOfSign 63 = .ok (.goto (-56), 3) := by decide +kernel
theorem dX1_changesOfSign_66 : decode cX1_changesOfSign 66 = .ok (.iload_n 2, 1) := by decide +kernel
theorem dX1_changesOfSign_67 : decode cX1_changesOfSign 67 = .ok (.ireturn, 1) := by decide +kernel
theorem dX2_init_0 : decode cX2_init 0 = .ok (.aload_n 0, 1) := by decide +kernel
theorem dX2_init_1 : decode cX2_init 1 = .ok (.invokespecial 1, 3) := by decide +kernel
theorem dX2_init_4 : decode cX2_init 4 = .ok (.return_, 1) := by decide +kernel
theorem dX2_take_0 : decode cX2_take 0 = .ok (.aload_n 0, 1) := by decide +kernel
theorem dX2_take_1 : decode cX2_take 1 = .ok (.dup, 1) := by decide +kernel
theorem dX2_take_2 : decode cX2_take 2 = .ok (.getfield 7, 3) := by decide +kernel
theorem dX2_take_5 : decode cX2_take 5 = .ok (.lconst 1, 1) := by decide +kernel
theorem dX2_take_6 : decode cX2_take 6 = .ok (.ladd, 1) := by decide +kernel
theorem dX2_take_7 : decode cX2_take 7 = .ok (.putfield 7, 3) := by decide +kernel
theorem dX2_take_10 : decode cX2_take 10 = .ok (.aload_n 0, 1) := by decide +kernel
theorem dX2_take_11 : decode cX2_take 11 = .ok (.dup, 1) := by decide +kernel
theorem dX2_take_12 : decode cX2_take 12 = .ok (.getfield 13, 3) := by decide +kernel
theorem dX2_take_15 : decode cX2_take 15 = .ok (.lload_n 1, 1) := by decide +kernel
theorem dX2_take_16 : decode cX2_take 16 = .ok (.ladd, 1) := by decide +kernel
theorem dX2_take_17 : decode cX2_take 17 = .ok (.putfield 13, 3) := by decide +kernel
theorem dX2_take_20 : decode cX2_take 20 = .ok (.aload_n 0, 1) := by decide +kernel
theorem dX2_take_21 : decode cX2_take 21 = .ok (.dup, 1) := by decide +kernel
theorem dX2_take_22 : decode cX2_take 22 = .ok (.getfield 16, 3) := by decide +kernel
theorem dX2_take_25 : decode cX2_take 25 = .ok (.lload_n 1, 1) := by decide +kernel
theorem dX2_take_26 : decode cX2_take 26 = .ok (.lload_n 1, 1) := by decide +kernel
theorem dX2_take_27 : decode cX2_take 27 = .ok (.lmul, 1) := by decide +kernel
theorem dX2_take_28 : decode cX2_take 28 = .ok (.ladd, 1) := by decide +kernel
theorem dX2_take_29 : decode cX2_take 29 = .ok (.putfield 16, 3) := by decide +kernel
theorem dX2_take_32 : decode cX2_take 32 = .ok (.return_, 1) := by decide +kernel
theorem dX3_init_0 : decode cX3_init 0 = .ok (.aload_n 0, 1) := by decide +kernel
theorem dX3_init_1 : decode cX3_init 1 = .ok (.invokespecial 3, 3) := by decide +kernel
theorem dX3_init_4 : decode cX3_init 4 = .ok (.aload_n 0, 1) := by decide +kernel
theorem dX3_init_5 : decode cX3_init 5 = .ok (.bipush 96, 2) := by decide +kernel
theorem dX3_init_7 : decode cX3_init 7 = .ok (.newarray .int, 2) := by decide +kernel
theorem dX3_init_9 : decode cX3_init 9 = .ok (.putfield 9, 3) := by decide +kernel
theorem dX3_init_12 : decode cX3_init 12 = .ok (.aload_n 0, 1) := by decide +kernel
theorem dX3_init_13 : decode cX3_init 13 = .ok (.bipush 96, 2) := by decide +kernel
theorem dX3_init_15 : decode cX3_init 15 = .ok (.newarray .int, 2) := by decide +kernel
theorem dX3_init_17 : decode cX3_init 17 = .ok (.putfield 15, 3) := by decide +kernel
theorem dX3_init_20 : decode cX3_init 20 = .ok (.aload_n 0, 1) := by decide +kernel
theorem dX3_init_21 : decode cX3_init 21 = .ok (.bipush 96, 2) := by decide +kernel
theorem dX3_init_23 : decode cX3_init 23 = .ok (.newarray .int, 2) := by decide +kernel
theorem dX3_init_25 : decode cX3_init 25 = .ok (.putfield 18, 3) := by decide +kernel
theorem dX3_init_28 : decode cX3_init 28 = .ok (.aload_n 0, 1) := by decide +kernel
theorem dX3_init_29 : decode cX3_init 29 = .ok (.bipush 96, 2) := by decide +kernel
theorem dX3_init_31 : decode cX3_init 31 = .ok (.newarray .int, 2) := by decide +kernel
theorem dX3_init_33 : decode cX3_init 33 = .ok (.putfield 21, 3) := by decide +kernel
theorem dX3_init_36 : decode cX3_init 36 = .ok (.aload_n 0, 1) := by decide +kernel
theorem dX3_init_37 : decode cX3_init 37 = .ok (.bipush 96, 2) := by decide +kernel
theorem dX3_init_39 : decode cX3_init 39 = .ok (.newarray .int, 2) := by decide +kernel
theorem dX3_init_41 : decode cX3_init 41 = .ok (.putfield 24, 3) := by decide +kernel
theorem dX3_init_44 : decode cX3_init 44 = .ok (.aload_n 0, 1) := by decide +kernel
theorem dX3_init_45 : decode cX3_init 45 = .ok (.bipush 96, 2) := by decide +kernel
theorem dX3_init_47 : decode cX3_init 47 = .ok (.newarray .int, 2) := by decide +kernel
theorem dX3_init_49 : decode cX3_init 49 = .ok (.putfield 27, 3) := by decide +kernel
theorem dX3_init_52 : decode cX3_init 52 = .ok (.aload_n 0, 1) := by decide +kernel
theorem dX3_init_53 : decode cX3_init 53 = .ok (.iconst 4, 1) := by decide +kernel
theorem dX3_init_54 : decode cX3_init 54 = .ok (.newarray .int, 2) := by decide +kernel
theorem dX3_init_56 : decode cX3_init 56 = .ok (.putfield 30, 3) := by decide +kernel
theorem dX3_init_59 : decode cX3_init 59 = .ok (.aload_n 0, 1) := by decide +kernel
theorem dX3_init_60 : decode cX3_init 60 = .ok (.iconst 4, 1) := by decide +kernel
theorem dX3_init_61 : decode cX3_init 61 = .ok (.newarray .int, 2) := by decide +kernel
theorem dX3_init_63 : decode cX3_init 63 = .ok (.putfield 33, 3) := by decide +kernel
theorem dX3_init_66 : decode cX3_init 66 = .ok (.aload_n 0, 1) := by decide +kernel
theorem dX3_init_67 : decode cX3_init 67 = .ok (.iconst 4, 1) := by decide +kernel
theorem dX3_init_68 : decode cX3_init 68 = .ok (.newarray .int, 2) := by decide +kernel
theorem dX3_init_70 : decode cX3_init 70 = .ok (.putfield 36, 3) := by decide +kernel
theorem dX3_init_73 : decode cX3_init 73 = .ok (.aload_n 0, 1) := by decide +kernel
theorem dX3_init_74 : decode cX3_init 74 = .ok (.iconst 4, 1) := by decide +kernel
theorem dX3_init_75 : decode cX3_init 75 = .ok (.newarray .int, 2) := by decide +kernel
theorem dX3_init_77 : decode cX3_init 77 = .ok (.putfield 39, 3) := by decide +kernel
theorem dX3_init_80 : decode cX3_init 80 = .ok (.aload_n 0, 1) := by decide +kernel
theorem dX3_init_81 : decode cX3_init 81 = .ok (.iconst 4, 1) := by decide +kernel
theorem dX3_init_82 : decode cX3_init 82 = .ok (.newarray .int, 2) := by decide +kernel
theorem dX3_init_84 : decode cX3_init 84 = .ok (.putfield 42, 3) := by decide +kernel
theorem dX3_init_87 : decode cX3_init 87 = .ok (.aload_n 0, 1) := by decide +kernel
theorem dX3_init_88 : decode cX3_init 88 = .ok (.iconst 4, 1) := by decide +kernel
theorem dX3_init_89 : decode cX3_init 89 = .ok (.newarray .int, 2) := by decide +kernel
theorem dX3_init_91 : decode cX3_init 91 = .ok (.putfield 45, 3) := by decide +kernel
theorem dX3_init_94 : decode cX3_init 94 = .ok (.aload_n 0, 1) := by decide +kernel
theorem dX3_init_95 : decode cX3_init 95 = .ok (.getfield 15, 3) := by decide +kernel
theorem dX3_init_98 : decode cX3_init 98 = .ok (.iconst (-1), 1) := by decide +kernel
theorem dX3_init_99 : decode cX3_init 99 = .ok (.invokestatic 48, 3) := by decide +kernel
theorem dX3_init_102 : decode cX3_init 102 = .ok (.return_, 1) := by decide +kernel
theorem dX3_becomeLike_0 : decode cX3_becomeLike 0 = .ok (.aload_n 1, 1) := by decide +kernel
theorem dX3_becomeLike_1 : decode cX3_becomeLike 1 = .ok (.getfield 9, 3) := by decide +kernel
theorem dX3_becomeLike_4 : decode cX3_becomeLike 4 = .ok (.iconst 0, 1) := by decide +kernel
theorem dX3_becomeLike_5 : decode cX3_becomeLike 5 = .ok (.aload_n 0, 1) := by decide +kernel
theorem dX3_becomeLike_6 : decode cX3_becomeLike 6 = .ok (.getfield 9, 3) := by decide +kernel
theorem dX3_becomeLike_9 : decode cX3_becomeLike 9 = .ok (.iconst 0, 1) := by decide +kernel
theorem dX3_becomeLike_10 : decode cX3_becomeLike 10 = .ok (.bipush 96, 2) := by decide +kernel
theorem dX3_becomeLike_12 : decode cX3_becomeLike 12 = .ok (.invokestatic 54, 3) := by decide +kernel
theorem dX3_becomeLike_15 : decode cX3_becomeLike 15 = .ok (.aload_n 1, 1) := by decide +kernel
theorem dX3_becomeLike_16 : decode cX3_becomeLike 16 = .ok (.getfield 15, 3) := by decide +kernel
theorem dX3_becomeLike_19 : decode cX3_becomeLike 19 = .ok (.iconst 0, 1) := by decide +kernel
theorem dX3_becomeLike_20 : decode cX3_becomeLike 20 = .ok (.aload_n 0, 1) := by decide +kernel
theorem dX3_becomeLike_21 : decode cX3_becomeLike 21 = .ok (.getfield 15, 3) := by decide +kernel
theorem dX3_becomeLike_24 : decode cX3_becomeLike 24 = .ok (.iconst 0, 1) := by decide +kernel
theorem dX3_becomeLike_25 : decode cX3_becomeLike 25 = .ok (.bipush 96, 2) := by decide +kernel
theorem dX3_becomeLike_27 : decode cX3_becomeLike 27 = .ok (.invokestatic 54, 3) := by decide +kernel
theorem dX3_becomeLike_30 : decode cX3_becomeLike 30 = .ok (.aload_n 1, 1) := by decide +kernel
theorem dX3_becomeLike_31 : decode cX3_becomeLike 31 = .ok (.getfield 18, 3) := by decide +kernel
theorem dX3_becomeLike_34 : decode cX3_becomeLike 34 = .ok (.iconst 0, 1) := by decide +kernel
theorem dX3_becomeLike_35 : decode cX3_becomeLike 35 = .ok (.aload_n 0, 1) := by decide +kernel
theorem dX3_becomeLike_36 : decode cX3_becomeLike 36 = .ok (.getfield 18, 3) := by decide +kernel
theorem dX3_becomeLike_39 : decode cX3_becomeLike 39 = .ok (.iconst 0, 1) := by decide +kernel
theorem dX3_becomeLike_40 : decode cX3_becomeLike 40 = .ok (.bipush 96, 2) := by decide +kernel
theorem dX3_becomeLike_42 : decode cX3_becomeLike 42 = .ok (.invokestatic 54, 3) := by decide +kernel
theorem dX3_becomeLike_45 : decode cX3_becomeLike 45 = .ok (.aload_n 1, 1) := by decide +kernel
theorem dX3_becomeLike_46 : decode cX3_becomeLike 46 = .ok (.getfield 21, 3) := by decide +kernel
theorem dX3_becomeLike_49 : decode cX3_becomeLike 49 = .ok (.iconst 0, 1) := by decide +kernel
theorem dX3_becomeLike_50 : decode cX3_becomeLike 50 = .ok (.aload_n 0, 1) := by decide +kernel
theorem dX3_becomeLike_51 : decode cX3_becomeLike 51 = .ok (.getfield 21, 3) := by decide +kernel
theorem dX3_becomeLike_54 : decode cX3_becomeLike 54 = .ok (.iconst 0, 1) := by decide +kernel
theorem dX3_becomeLike_55 : decode cX3_becomeLike 55 = .ok (.bipush 96, 2) := by decide +kernel
theorem dX3_becomeLike_57 : decode cX3_becomeLike 57 = .ok (.invokestatic 54, 3) := by decide +kernel
theorem dX3_becomeLike_60 : decode cX3_becomeLike 60 = .ok (.aload_n 1, 1) := by decide +kernel
theorem dX3_becomeLike_61 : decode cX3_becomeLike 61 = .ok (.getfield 30, 3) := by decide +kernel
theorem dX3_becomeLike_64 : decode cX3_becomeLike 64 = .ok (.iconst 0, 1) := by decide +kernel
theorem dX3_becomeLike_65 : decode cX3_becomeLike 65 = .ok (.aload_n 0, 1) := by decide +kernel
theorem dX3_becomeLike_66 : decode cX3_becomeLike 66 = .ok (.getfield 30, 3) := by decide +kernel
theorem dX3_becomeLike_69 : decode cX3_becomeLike 69 = .ok (.iconst 0, 1) := by decide +kernel
theorem dX3_becomeLike_70 : decode cX3_becomeLike 70 = .ok (.iconst 4, 1) := by decide +kernel
theorem dX3_becomeLike_71 : decode cX3_becomeLike 71 = .ok (.invokestatic 54, 3) := by decide +kernel
theorem dX3_becomeLike_74 : decode cX3_becomeLike 74 = .ok (.aload_n 1, 1) := by decide +kernel
theorem dX3_becomeLike_75 : decode cX3_becomeLike 75 = .ok (.getfield 33, 3) := by decide +kernel
theorem dX3_becomeLike_78 : decode cX3_becomeLike 78 = .ok (.iconst 0, 1) := by decide +kernel
theorem dX3_becomeLike_79 : decode cX3_becomeLike 79 = .ok (.aload_n 0, 1) := by decide +kernel
theorem dX3_becomeLike_80 : decode cX3_becomeLike 80 = .ok (.getfield 33, 3) := by decide +kernel
theorem dX3_becomeLike_83 : decode cX3_becomeLike 83 = .ok (.iconst 0, 1) := by decide +kernel
theorem dX3_becomeLike_84 : decode cX3_becomeLike 84 = .ok (.iconst 4, 1) := by decide +kernel
theorem dX3_becomeLike_85 : decode cX3_becomeLike 85 = .ok (.invokestatic 54, 3) := by decide +kernel
theorem dX3_becomeLike_88 : decode cX3_becomeLike 88 = .ok (.aload_n 1, 1) := by decide +kernel
theorem dX3_becomeLike_89 : decode cX3_becomeLike 89 = .ok (.getfield 36, 3) := by decide +kernel
theorem dX3_becomeLike_92 : decode cX3_becomeLike 92 = .ok (.iconst 0, 1) := by decide +kernel
theorem dX3_becomeLike_93 : decode cX3_becomeLike 93 = .ok (.aload_n 0, 1) := by decide +kernel
theorem dX3_becomeLike_94 : decode cX3_becomeLike 94 = .ok (.getfield 36, 3) := by decide +kernel
theorem dX3_becomeLike_97 : decode cX3_becomeLike 97 = .ok (.iconst 0, 1) := by decide +kernel
theorem dX3_becomeLike_98 : decode cX3_becomeLike 98 = .ok (.iconst 4, 1) := by decide +kernel
theorem dX3_becomeLike_99 : decode cX3_becomeLike 99 = .ok (.invokestatic 54, 3) := by decide +kernel
theorem dX3_becomeLike_102 : decode cX3_becomeLike 102 = .ok (.aload_n 1, 1) := by decide +kernel
theorem dX3_becomeLike_103 : decode cX3_becomeLike 103 = .ok (.getfield 39, 3) := by decide +kernel
theorem dX3_becomeLike_106 : decode cX3_becomeLike 106 = .ok (.iconst 0, 1) := by decide +kernel
theorem dX3_becomeLike_107 : decode cX3_becomeLike 107 = .ok (.aload_n 0, 1) := by decide +kernel
theorem dX3_becomeLike_108 : decode cX3_becomeLike 108 = .ok (.getfield 39, 3) := by decide +kernel
theorem dX3_becomeLike_111 : decode cX3_becomeLike 111 = .ok (.iconst 0, 1) := by decide +kernel
theorem dX3_becomeLike_112 : decode cX3_becomeLike 112 = .ok (.iconst 4, 1) := by decide +kernel
theorem dX3_becomeLike_113 : decode cX3_becomeLike 113 = .ok (.invokestatic 54, 3) := by decide +kernel
theorem dX3_becomeLike_116 : decode cX3_becomeLike 116 = .ok (.aload_n 1, 1) := by decide +kernel
theorem dX3_becomeLike_117 : decode cX3_becomeLike 117 = .ok (.getfield 42, 3) := by decide +kernel
theorem dX3_becomeLike_120 : decode cX3_becomeLike 120 = .ok (.iconst 0, 1) := by decide +kernel
theorem dX3_becomeLike_121 : decode cX3_becomeLike 121 = .ok (.aload_n 0, 1) := by decide +kernel
theorem dX3_becomeLike_122 : decode cX3_becomeLike 122 = .ok (.getfield 42, 3) := by decide +kernel
theorem dX3_becomeLike_125 : decode cX3_becomeLike 125 = .ok (.iconst 0, 1) := by decide +kernel
theorem dX3_becomeLike_126 : decode cX3_becomeLike 126 = .ok (.iconst 4, 1) := by decide +kernel
theorem dX3_becomeLike_127 : decode cX3_becomeLike 127 = .ok (.invokestatic 54, 3) := by decide +kernel
theorem dX3_becomeLike_130 : decode cX3_becomeLike 130 = .ok (.aload_n 1, 1) := by decide +kernel
theorem dX3_becomeLike_131 : decode cX3_becomeLike 131 = .ok (.getfield 45, 3) := by decide +kernel
theorem dX3_becomeLike_134 : decode cX3_becomeLike 134 = .ok (.iconst 0, 1) := by decide +kernel
theorem dX3_becomeLike_135 : decode cX3_becomeLike 135 = .ok (.aload_n 0, 1) := by decide +kernel
theorem dX3_becomeLike_136 : decode cX3_becomeLike 136 = .ok (.getfield 45, 3) := by decide +kernel
theorem dX3_becomeLike_139 : decode cX3_becomeLike 139 = .ok (.iconst 0, 1) := by decide +kernel
theorem dX3_becomeLike_140 : decode cX3_becomeLike 140 = .ok (.iconst 4, 1) := by decide +kernel
theorem dX3_becomeLike_141 : decode cX3_becomeLike 141 = .ok (.invokestatic 54, 3) := by decide +kernel
theorem dX3_becomeLike_144 : decode cX3_becomeLike 144 = .ok (.aload_n 0, 1) := by decide +kernel
theorem dX3_becomeLike_145 : decode cX3_becomeLike 145 = .ok (.aload_n 1, 1) := by decide +kernel
theorem dX3_becomeLike_146 : decode cX3_becomeLike 146 = .ok (.getfield 60, 3) := by decide +kernel
theorem dX3_becomeLike_149 : decode cX3_becomeLike 149 = .ok (.putfield 60, 3) := by decide +kernel
theorem dX3_becomeLike_152 : decode cX3_becomeLike 152 = .ok (.return_, 1) := by decide +kernel
theorem dX3_makeFree_0 : decode cX3_makeFree 0 = .ok (.aload_n 0, 1) := by decide +kernel
theorem dX3_makeFree_1 : decode cX3_makeFree 1 = .ok (.getfield 9, 3) := by decide +kernel
theorem dX3_makeFree_4 : decode cX3_makeFree 4 = .ok (.iload_n 1, 1) := by decide +kernel
theorem dX3_makeFree_5 : decode cX3_makeFree 5 = .ok (.iconst 0, 1) := by decide +kernel
theorem dX3_makeFree_6 : decode cX3_makeFree 6 = .ok (.iastore, 1) := by decide +kernel
theorem dX3_makeFree_7 : decode cX3_makeFree 7 = .ok (.aload_n 0, 1) := by decide +kernel
theorem dX3_makeFree_8 : decode cX3_makeFree 8 = .ok (.getfield 15, 3) := by decide +kernel
theorem dX3_makeFree_11 : decode cX3_makeFree 11 = .ok (.iload_n 1, 1) := by decide +kernel
theorem dX3_makeFree_12 : decode cX3_makeFree 12 = .ok (.iconst (-1), 1) := by decide +kernel
theorem dX3_makeFree_13 : decode cX3_makeFree 13 = .ok (.iastore, 1) := by decide +kernel
theorem dX3_makeFree_14 : decode cX3_makeFree 14 = .ok (.return_, 1) := by decide +kernel
theorem dX3_letIn_0 : decode cX3_letIn 0 = .ok (.aload_n 0, 1) := by decide +kernel
theorem dX3_letIn_1 : decode cX3_letIn 1 = .ok (.getfield 18, 3) := by decide +kernel
theorem dX3_letIn_4 : decode cX3_letIn 4 = .ok (.iload_n 1, 1) := by decide +kernel
theorem dX3_letIn_5 : decode cX3_letIn 5 = .ok (.dup2, 1) := by decide +kernel
theorem dX3_letIn_6 : decode cX3_letIn 6 = .ok (.iaload, 1) := by decide +kernel
theorem dX3_letIn_7 : decode cX3_letIn 7 = .ok (.iconst 1, 1) := by decide +kernel
theorem dX3_letIn_8 : decode cX3_letIn 8 = .ok (.iload_n 2, 1) := by decide +kernel
theorem dX3_letIn_9 : decode cX3_letIn 9 = .ok (.ishl, 1) := by decide +kernel
theorem dX3_letIn_10 : decode cX3_letIn 10 = .ok (.ior, 1) := by decide +kernel
theorem dX3_letIn_11 : decode cX3_letIn 11 = .ok (.iastore, 1) := by decide +kernel
theorem dX3_letIn_12 : decode cX3_letIn 12 = .ok (.aload_n 0, 1) := by decide +kernel
theorem dX3_letIn_13 : decode cX3_letIn 13 = .ok (.getfield 39, 3) := by decide +kernel
theorem dX3_letIn_16 : decode cX3_letIn 16 = .ok (.iload_n 2, 1) := by decide +kernel
theorem dX3_letIn_17 : decode cX3_letIn 17 = .ok (.dup2, 1) := by decide +kernel
theorem dX3_letIn_18 : decode cX3_letIn 18 = .ok (.iaload, 1) := by decide +kernel
theorem dX3_letIn_19 : decode cX3_letIn 19 = .ok (.iconst 1, 1) := by decide +kernel
theorem dX3_letIn_20 : decode cX3_letIn 20 = .ok (.iadd, 1) := by decide +kernel
theorem dX3_letIn_21 : decode cX3_letIn 21 = .ok (.iastore, 1) := by decide +kernel
theorem dX3_letIn_22 : decode cX3_letIn 22 = .ok (.return_, 1) := by decide +kernel
theorem dX3_isShut_0 : decode cX3_isShut 0 = .ok (.iload_n 1, 1) := by decide +kernel
theorem dX3_isShut_1 : decode cX3_isShut 1 = .ok (.invokestatic 64, 3) := by decide +kernel
theorem dX3_isShut_4 : decode cX3_isShut 4 = .ok (.ifCond .ne 13, 3) := by decide +kernel
theorem dX3_isShut_7 : decode cX3_isShut 7 = .ok (.aload_n 0, 1) := by decide +kernel
theorem dX3_isShut_8 : decode cX3_isShut 8 = .ok (.getfield 9, 3) := by decide +kernel
theorem dX3_isShut_11 : decode cX3_isShut 11 = .ok (.iload_n 1, 1) := by decide +kernel
theorem dX3_isShut_12 : decode cX3_isShut 12 = .ok (.iaload, 1) := by decide +kernel
theorem dX3_isShut_13 : decode cX3_isShut 13 = .ok (.iconst 1, 1) := by decide +kernel
theorem dX3_isShut_14 : decode cX3_isShut 14 = .ok (.if_icmp .ne 7, 3) := by decide +kernel
theorem dX3_isShut_17 : decode cX3_isShut 17 = .ok (.iconst 1, 1) := by decide +kernel
theorem dX3_isShut_18 : decode cX3_isShut 18 = .ok (.goto 4, 3) := by decide +kernel
theorem dX3_isShut_21 : decode cX3_isShut 21 = .ok (.iconst 0, 1) := by decide +kernel
theorem dX3_isShut_22 : decode cX3_isShut 22 = .ok (.ireturn, 1) := by decide +kernel
theorem dX3_isClosed_0 : decode cX3_isClosed 0 = .ok (.aload_n 0, 1) := by decide +kernel
theorem dX3_isClosed_1 : decode cX3_isClosed 1 = .ok (.getfield 9, 3) := by decide +kernel
theorem dX3_isClosed_4 : decode cX3_isClosed 4 = .ok (.astore_n 1, 1) := by decide +kernel
theorem dX3_isClosed_5 : decode cX3_isClosed 5 = .ok (.aload_n 1, 1) := by decide +kernel
theorem dX3_isClosed_6 : decode cX3_isClosed 6 = .ok (.arraylength, 1) := by decide +kernel
theorem dX3_isClosed_7 : decode cX3_isClosed 7 = .ok (.istore_n 2, 1) := by decide +kernel
theorem dX3_isClosed_8 : decode cX3_isClosed 8 = .ok (.iconst 0, 1) := by decide +kernel
theorem dX3_isClosed_9 : decode cX3_isClosed 9 = .ok (.istore_n 3, 1) := by decide +kernel
theorem dX3_isClosed_10 : decode cX3_isClosed 10 = .ok (.iload_n 3, 1) := by decide +kernel
theorem dX3_isClosed_11 : decode cX3_isClosed 11 = .ok (.iload_n 2, 1) := by decide +kernel
theorem dX3_isClosed_12 : decode cX3_isClosed 12 = .ok (.if_icmp .ge 28, 3) := by decide +kernel
theorem dX3_isClosed_15 : decode cX3_isClosed 15 = .ok (.aload_n 1, 1) := by decide +kernel
theorem dX3_isClosed_16 : decode cX3_isClosed 16 = .ok (.iload_n 3, 1) := by decide +kernel
theorem dX3_isClosed_17 : decode cX3_isClosed 17 = .ok (.iaload, 1) := by decide +kernel
theorem dX3_isClosed_18 : decode cX3_isClosed 18 = .ok (.istore 4, 2) := by decide +kernel
theorem dX3_isClosed_20 : decode cX3_isClosed 20 = .ok (.iload 4, 2) := by decide +kernel
theorem dX3_isClosed_22 : decode cX3_isClosed 22 = .ok (.iconst 2, 1) := by decide +kernel
theorem dX3_isClosed_23 : decode cX3_isClosed 23 = .ok (.if_icmp .eq 9, 3) := by decide +kernel
theorem dX3_isClosed_26 : decode cX3_isClosed 26 = .ok (.iload 4, 2) := by decide +kernel
theorem dX3_isClosed_28 : decode cX3_isClosed 28 = .ok (.iconst 3, 1) := by decide +kernel
theorem dX3_isClosed_29 : decode cX3_isClosed 29 = .ok (.if_icmp .ne 5, 3) := by decide +kernel
theorem dX3_isClosed_32 : decode cX3_isClosed 32 = .ok (.iconst 0, 1) := by decide +kernel
theorem dX3_isClosed_33 : decode cX3_isClosed 33 = .ok (.ireturn, 1) := by decide +kernel
theorem dX3_isClosed_34 : decode cX3_isClosed 34 = .ok (.iinc 3 1, 3) := by decide +kernel
theorem dX3_isClosed_37 : decode cX3_isClosed 37 = .ok (.goto (-27), 3) := by decide +kernel
theorem dX3_isClosed_40 : decode cX3_isClosed 40 = .ok (.iconst 1, 1) := by decide +kernel
theorem dX3_isClosed_41 : decode cX3_isClosed 41 = .ok (.ireturn, 1) := by decide +kernel
theorem dX3_isAllDyed_0 : decode cX3_isAllDyed 0 = .ok (.aload_n 0, 1) := by decide +kernel
theorem dX3_isAllDyed_1 : decode cX3_isAllDyed 1 = .ok (.getfield 18, 3) := by decide +kernel
theorem dX3_isAllDyed_4 : decode cX3_isAllDyed 4 = .ok (.iload_n 1, 1) := by decide +kernel
theorem dX3_isAllDyed_5 : decode cX3_isAllDyed 5 = .ok (.iaload, 1) := by decide +kernel
theorem dX3_isAllDyed_6 : decode cX3_isAllDyed 6 = .ok (.ifCond .eq 22, 3) := by decide +kernel
theorem dX3_isAllDyed_9 : decode cX3_isAllDyed 9 = .ok (.aload_n 0, 1) := by decide +kernel
theorem dX3_isAllDyed_10 : decode cX3_isAllDyed 10 = .ok (.getfield 21, 3) := by decide +kernel
theorem dX3_isAllDyed_13 : decode cX3_isAllDyed 13 = .ok (.iload_n 1, 1) := by decide +kernel
theorem dX3_isAllDyed_14 : decode cX3_isAllDyed 14 = .ok (.iaload, 1) := by decide +kernel
theorem dX3_isAllDyed_15 : decode cX3_isAllDyed 15 = .ok (.aload_n 0, 1) := by decide +kernel
theorem dX3_isAllDyed_16 : decode cX3_isAllDyed 16 = .ok (.getfield 18, 3) := by decide +kernel
theorem dX3_isAllDyed_19 : decode cX3_isAllDyed 19 = .ok (.iload_n 1, 1) := by decide +kernel
theorem dX3_isAllDyed_20 : decode cX3_isAllDyed 20 = .ok (.iaload, 1) := by decide +kernel
theorem dX3_isAllDyed_21 : decode cX3_isAllDyed 21 = .ok (.if_icmp .ne 7, 3) := by decide +kernel
theorem dX3_isAllDyed_24 : decode cX3_isAllDyed 24 = .ok (.iconst 1, 1) := by decide +kernel
theorem dX3_isAllDyed_25 : decode cX3_isAllDyed 25 = .ok (.goto 4, 3) := by decide +kernel
theorem dX3_isAllDyed_28 : decode cX3_isAllDyed 28 = .ok (.iconst 0, 1) := by decide +kernel
theorem dX3_isAllDyed_29 : decode cX3_isAllDyed 29 = .ok (.ireturn, 1) := by decide +kernel
theorem dX3_isAllPlain_0 : decode cX3_isAllPlain 0 = .ok (.aload_n 0, 1) := by decide +kernel
theorem dX3_isAllPlain_1 : decode cX3_isAllPlain 1 = .ok (.getfield 18, 3) := by decide +kernel
theorem dX3_isAllPlain_4 : decode cX3_isAllPlain 4 = .ok (.iload_n 1, 1) := by decide +kernel
theorem dX3_isAllPlain_5 : decode cX3_isAllPlain 5 = .ok (.iaload, 1) := by decide +kernel
theorem dX3_isAllPlain_6 : decode cX3_isAllPlain 6 = .ok (.ifCond .eq 16, 3) := by decide +kernel
theorem dX3_isAllPlain_9 : decode cX3_isAllPlain 9 = .ok (.aload_n 0, 1) := by decide +kernel
theorem dX3_isAllPlain_10 : decode cX3_isAllPlain 10 = .ok (.getfield 21, 3) := by decide +kernel
theorem dX3_isAllPlain_13 : decode cX3_isAllPlain 13 = .ok (.iload_n 1, 1) := by decide +kernel
theorem dX3_isAllPlain_14 : decode cX3_isAllPlain 14 = .ok (.iaload, 1) := by decide +kernel
theorem dX3_isAllPlain_15 : decode cX3_isAllPlain 15 = .ok (.ifCond .ne 7, 3) := by decide +kernel
theorem dX3_isAllPlain_18 : decode cX3_isAllPlain 18 = .ok (.iconst 1, 1) := by decide +kernel
theorem dX3_isAllPlain_19 : decode cX3_isAllPlain 19 = .ok (.goto 4, 3) := by decide +kernel
theorem dX3_isAllPlain_22 : decode cX3_isAllPlain 22 = .ok (.iconst 0, 1) := by decide +kernel
theorem dX3_isAllPlain_23 : decode cX3_isAllPlain 23 = .ok (.ireturn, 1) := by decide +kernel
theorem dX3_cellsOfBody_0 : decode cX3_cellsOfBody 0 = .ok (.iconst 0, 1) := by decide +kernel
theorem dX3_cellsOfBody_1 : decode cX3_cellsOfBody 1 = .ok (.istore_n 2, 1) := by decide +kernel
theorem dX3_cellsOfBody_2 : decode cX3_cellsOfBody 2 = .ok (.aload_n 0, 1) := by decide +kernel
theorem dX3_cellsOfBody_3 : decode cX3_cellsOfBody 3 = .ok (.getfield 15, 3) := by decide +kernel
theorem dX3_cellsOfBody_6 : decode cX3_cellsOfBody 6 = .ok (.astore_n 3, 1) := by decide +kernel
theorem dX3_cellsOfBody_7 : decode cX3_cellsOfBody 7 = .ok (.aload_n 3, 1) := by decide +kernel
theorem dX3_cellsOfBody_8 : decode cX3_cellsOfBody 8 = .ok (.arraylength, 1) := by decide +kernel
theorem dX3_cellsOfBody_9 : decode cX3_cellsOfBody 9 = .ok (.istore 4, 2) := by decide +kernel
theorem dX3_cellsOfBody_11 : decode cX3_cellsOfBody 11 = .ok (.iconst 0, 1) := by decide +kernel
theorem dX3_cellsOfBody_12 : decode cX3_cellsOfBody 12 = .ok (.istore 5, 2) := by decide +kernel
theorem dX3_cellsOfBody_14 : decode cX3_cellsOfBody 14 = .ok (.iload 5, 2) := by decide +kernel
theorem dX3_cellsOfBody_16 : decode cX3_cellsOfBody 16 = .ok (.iload 4, 2) := by decide +kernel
theorem dX3_cellsOfBody_18 : decode cX3_cellsOfBody 18 = .ok (.if_icmp .ge 29, 3) := by decide +kernel
theorem dX3_cellsOfBody_21 : decode cX3_cellsOfBody 21 = .ok (.aload_n 3, 1) := by decide +kernel
theorem dX3_cellsOfBody_22 : decode cX3_cellsOfBody 22 = .ok (.iload 5, 2) := by decide +kernel
theorem dX3_cellsOfBody_24 : decode cX3_cellsOfBody 24 = .ok (.iaload, 1) := by decide +kernel
theorem dX3_cellsOfBody_25 : decode cX3_cellsOfBody 25 = .ok (.istore 6, 2) := by decide +kernel
theorem dX3_cellsOfBody_27 : decode cX3_cellsOfBody 27 = .ok (.iload_n 2, 1) := by decide +kernel
theorem dX3_cellsOfBody_28 : decode cX3_cellsOfBody 28 = .ok (.iload 6, 2) := by decide +kernel
theorem dX3_cellsOfBody_30 : decode cX3_cellsOfBody 30 = .ok (.iload_n 1, 1) := by decide +kernel
theorem dX3_cellsOfBody_31 : decode cX3_cellsOfBody 31 = .ok (.if_icmp .ne 7, 3) := by decide +kernel
theorem dX3_cellsOfBody_34 : decode cX3_cellsOfBody 34 = .ok (.iconst 1, 1) := by decide +kernel
theorem dX3_cellsOfBody_35 : decode cX3_cellsOfBody 35 = .ok (.goto 4, 3) := by decide +kernel
theorem dX3_cellsOfBody_38 : decode cX3_cellsOfBody 38 = .ok (.iconst 0, 1) := by decide +kernel
theorem dX3_cellsOfBody_39 : decode cX3_cellsOfBody 39 = .ok (.iadd, 1) := by decide +kernel
theorem dX3_cellsOfBody_40 : decode cX3_cellsOfBody 40 = .ok (.istore_n 2, 1) := by decide +kernel
theorem dX3_cellsOfBody_41 : decode cX3_cellsOfBody 41 = .ok (.iinc 5 1, 3) := by decide +kernel
theorem dX3_cellsOfBody_44 : decode cX3_cellsOfBody 44 = .ok (.goto (-30), 3) := by decide +kernel
theorem dX3_cellsOfBody_47 : decode cX3_cellsOfBody 47 = .ok (.iload_n 2, 1) := by decide +kernel
theorem dX3_cellsOfBody_48 : decode cX3_cellsOfBody 48 = .ok (.ireturn, 1) := by decide +kernel
theorem dX3_numberAt_0 : decode cX3_numberAt 0 = .ok (.iload_n 2, 1) := by decide +kernel
theorem dX3_numberAt_1 : decode cX3_numberAt 1 = .ok (.ifCond .ne 15, 3) := by decide +kernel
theorem dX3_numberAt_4 : decode cX3_numberAt 4 = .ok (.aload_n 0, 1) := by decide +kernel
theorem dX3_numberAt_5 : decode cX3_numberAt 5 = .ok (.getfield 18, 3) := by decide +kernel
theorem dX3_numberAt_8 : decode cX3_numberAt 8 = .ok (.iload_n 1, 1) := by decide +kernel
theorem dX3_numberAt_9 : decode cX3_numberAt 9 = .ok (.iaload, 1) := by decide +kernel
theorem dX3_numberAt_10 : decode cX3_numberAt 10 = .ok (.invokestatic 68, 3) := by decide +kernel
theorem dX3_numberAt_13 : decode cX3_numberAt 13 = .ok (.goto 18, 3) := by decide +kernel
theorem dX3_numberAt_16 : decode cX3_numberAt 16 = .ok (.aload_n 0, 1) := by decide +kernel
theorem dX3_numberAt_17 : decode cX3_numberAt 17 = .ok (.iload_n 1, 1) := by decide +kernel
theorem dX3_numberAt_18 : decode cX3_numberAt 18 = .ok (.iload_n 2, 1) := by decide +kernel
theorem dX3_numberAt_19 : decode cX3_numberAt 19 = .ok (.iconst 1, 1) := by decide +kernel
theorem dX3_numberAt_20 : decode cX3_numberAt 20 = .ok (.if_icmp .ne 7, 3) := by decide +kernel
theorem dX3_numberAt_23 : decode cX3_numberAt 23 = .ok (.iconst 0, 1) := by decide +kernel
theorem dX3_numberAt_24 : decode cX3_numberAt 24 = .ok (.goto 4, 3) := by decide +kernel
theorem dX3_numberAt_27 : decode cX3_numberAt 27 = .ok (.iconst 1, 1) := by decide +kernel
theorem dX3_numberAt_28 : decode cX3_numberAt 28 = .ok (.invokevirtual 74, 3) := by decide +kernel
theorem dX3_numberAt_31 : decode cX3_numberAt 31 = .ok (.ireturn, 1) := by decide +kernel
theorem dX3_moreAt_0 : decode cX3_moreAt 0 = .ok (.aload_n 0, 1) := by decide +kernel
theorem dX3_moreAt_1 : decode cX3_moreAt 1 = .ok (.getfield 18, 3) := by decide +kernel
theorem dX3_moreAt_4 : decode cX3_moreAt 4 = .ok (.iload_n 1, 1) := by decide +kernel
theorem dX3_moreAt_5 : decode cX3_moreAt 5 = .ok (.iaload, 1) := by decide +kernel
theorem dX3_moreAt_6 : decode cX3_moreAt 6 = .ok (.iload_n 2, 1) := by decide +kernel
theorem dX3_moreAt_7 : decode cX3_moreAt 7 = .ok (.ishr, 1) := by decide +kernel
theorem dX3_moreAt_8 : decode cX3_moreAt 8 = .ok (.iconst 1, 1) := by decide +kernel
theorem dX3_moreAt_9 : decode cX3_moreAt 9 = .ok (.iand, 1) := by decide +kernel
theorem dX3_moreAt_10 : decode cX3_moreAt 10 = .ok (.aload_n 0, 1) := by decide +kernel
theorem dX3_moreAt_11 : decode cX3_moreAt 11 = .ok (.getfield 18, 3) := by decide +kernel
theorem dX3_moreAt_14 : decode cX3_moreAt 14 = .ok (.iload_n 1, 1) := by decide +kernel
theorem dX3_moreAt_15 : decode cX3_moreAt 15 = .ok (.iaload, 1) := by decide +kernel
theorem dX3_moreAt_16 : decode cX3_moreAt 16 = .ok (.iload_n 2, 1) := by decide +kernel
theorem dX3_moreAt_17 : decode cX3_moreAt 17 = .ok (.invokestatic 78, 3) := by decide +kernel
theorem dX3_moreAt_20 : decode cX3_moreAt 20 = .ok (.ishr, 1) := by decide +kernel
theorem dX3_moreAt_21 : decode cX3_moreAt 21 = .ok (.iconst 1, 1) := by decide +kernel
theorem dX3_moreAt_22 : decode cX3_moreAt 22 = .ok (.iand, 1) := by decide +kernel
theorem dX3_moreAt_23 : decode cX3_moreAt 23 = .ok (.isub, 1) := by decide +kernel
theorem dX3_moreAt_24 : decode cX3_moreAt 24 = .ok (.ireturn, 1) := by decide +kernel
theorem dX3_goingMore_0 : decode cX3_goingMore 0 = .ok (.iconst 0, 1) := by decide +kernel
theorem dX3_goingMore_1 : decode cX3_goingMore 1 = .ok (.istore_n 2, 1) := by decide +kernel
theorem dX3_goingMore_2 : decode cX3_goingMore 2 = .ok (.iconst 0, 1) := by decide +kernel
theorem dX3_goingMore_3 : decode cX3_goingMore 3 = .ok (.istore_n 3, 1) := by decide +kernel
theorem dX3_goingMore_4 : decode cX3_goingMore 4 = .ok (.iload_n 3, 1) := by decide +kernel
theorem dX3_goingMore_5 : decode cX3_goingMore 5 = .ok (.bipush 96, 2) := by decide +kernel
theorem dX3_goingMore_7 : decode cX3_goingMore 7 = .ok (.if_icmp .ge 18, 3) := by decide +kernel
theorem dX3_goingMore_10 : decode cX3_goingMore 10 = .ok (.iload_n 2, 1) := by decide +kernel
theorem dX3_goingMore_11 : decode cX3_goingMore 11 = .ok (.aload_n 0, 1) := by decide +kernel
theorem dX3_goingMore_12 : decode cX3_goingMore 12 = .ok (.iload_n 3, 1) := by decide +kernel
theorem dX3_goingMore_13 : decode cX3_goingMore 13 = .ok (.iload_n 1, 1) := by decide +kernel
theorem dX3_goingMore_14 : decode cX3_goingMore 14 = .ok (.invokevirtual 74, 3) := by decide +kernel
theorem dX3_goingMore_17 : decode cX3_goingMore 17 = .ok (.iadd, 1) := by decide +kernel
theorem dX3_goingMore_18 : decode cX3_goingMore 18 = .ok (.istore_n 2, 1) := by decide +kernel
theorem dX3_goingMore_19 : decode cX3_goingMore 19 = .ok (.iinc 3 1, 3) := by decide +kernel
theorem dX3_goingMore_22 : decode cX3_goingMore 22 = .ok (.goto (-18), 3) := by decide +kernel
theorem dX3_goingMore_25 : decode cX3_goingMore 25 = .ok (.iload_n 2, 1) := by decide +kernel
theorem dX3_goingMore_26 : decode cX3_goingMore 26 = .ok (.ireturn, 1) := by decide +kernel
theorem dX3_passStep_0 : decode cX3_passStep 0 = .ok (.aload_n 0, 1) := by decide +kernel
theorem dX3_passStep_1 : decode cX3_passStep 1 = .ok (.iconst 1, 1) := by decide +kernel
theorem dX3_passStep_2 : decode cX3_passStep 2 = .ok (.invokevirtual 81, 3) := by decide +kernel
theorem dX3_passStep_5 : decode cX3_passStep 5 = .ok (.aload_n 0, 1) := by decide +kernel
theorem dX3_passStep_6 : decode cX3_passStep 6 = .ok (.iconst 1, 1) := by decide +kernel
theorem dX3_passStep_7 : decode cX3_passStep 7 = .ok (.invokevirtual 85, 3) := by decide +kernel
theorem dX3_passStep_10 : decode cX3_passStep 10 = .ok (.aload_n 0, 1) := by decide +kernel
theorem dX3_passStep_11 : decode cX3_passStep 11 = .ok (.invokevirtual 88, 3) := by decide +kernel
theorem dX3_passStep_14 : decode cX3_passStep 14 = .ok (.aload_n 0, 1) := by decide +kernel
theorem dX3_passStep_15 : decode cX3_passStep 15 = .ok (.invokevirtual 91, 3) := by decide +kernel
theorem dX3_passStep_18 : decode cX3_passStep 18 = .ok (.return_, 1) := by decide +kernel
theorem dX3_undoStep_0 : decode cX3_undoStep 0 = .ok (.aload_n 0, 1) := by decide +kernel
theorem dX3_undoStep_1 : decode cX3_undoStep 1 = .ok (.invokevirtual 94, 3) := by decide +kernel
theorem dX3_undoStep_4 : decode cX3_undoStep 4 = .ok (.aload_n 0, 1) := by decide +kernel
theorem dX3_undoStep_5 : decode cX3_undoStep 5 = .ok (.iconst (-1), 1) := by decide +kernel
theorem dX3_undoStep_6 : decode cX3_undoStep 6 = .ok (.invokevirtual 85, 3) := by decide +kernel
theorem dX3_undoStep_9 : decode cX3_undoStep 9 = .ok (.aload_n 0, 1) := by decide +kernel
theorem dX3_undoStep_10 : decode cX3_undoStep 10 = .ok (.invokevirtual 94, 3) := by decide +kernel
theorem dX3_undoStep_13 : decode cX3_undoStep 13 = .ok (.aload_n 0, 1) := by decide +kernel
theorem dX3_undoStep_14 : decode cX3_undoStep 14 = .ok (.iconst (-1), 1) := by decide +kernel
theorem dX3_undoStep_15 : decode cX3_undoStep 15 = .ok (.invokevirtual 81, 3) := by decide +kernel
theorem dX3_undoStep_18 : decode cX3_undoStep 18 = .ok (.return_, 1) := by decide +kernel
theorem dX3_turnMeetings_0 : decode cX3_turnMeetings 0 = .ok (.iload_n 1, 1) := by decide +kernel
theorem dX3_turnMeetings_1 : decode cX3_turnMeetings 1 = .ok (.ifCond .le 7, 3) := by decide +kernel
theorem dX3_turnMeetings_4 : decode cX3_turnMeetings 4 = .ok (.iconst 1, 1) := by decide +kernel
theorem dX3_turnMeetings_5 : decode cX3_turnMeetings 5 = .ok (.goto 4, 3) := by decide +kernel
theorem dX3_turnMeetings_8 : decode cX3_turnMeetings 8 = .ok (.iconst 3, 1) := by decide +kernel
theorem dX3_turnMeetings_9 : decode cX3_turnMeetings 9 = .ok (.istore_n 2, 1) := by decide +kernel
theorem dX3_turnMeetings_10 : decode cX3_turnMeetings 10 = .ok (.iconst 0, 1) := by decide +kernel
theorem dX3_turnMeetings_11 : decode cX3_turnMeetings 11 = .ok (.istore_n 3, 1) := by decide +kernel
theorem dX3_turnMeetings_12 : decode cX3_turnMeetings 12 = .ok (.iload_n 3, 1) := by decide +kernel
theorem dX3_turnMeetings_13 : decode cX3_turnMeetings 13 = .ok (.bipush 96, 2) := by decide +kernel
theorem dX3_turnMeetings_15 : decode cX3_turnMeetings 15 = .ok (.if_icmp .ge 63, 3) := by decide +kernel
theorem dX3_turnMeetings_18 : decode cX3_turnMeetings 18 = .ok (.aload_n 0, 1) := by decide +kernel
theorem dX3_turnMeetings_19 : decode cX3_turnMeetings 19 = .ok (.getfield 18, 3) := by decide +kernel
theorem dX3_turnMeetings_22 : decode cX3_turnMeetings 22 = .ok (.iload_n 3, 1) := by decide +kernel
theorem dX3_turnMeetings_23 : decode cX3_turnMeetings 23 = .ok (.iaload, 1) := by decide +kernel
theorem dX3_turnMeetings_24 : decode cX3_turnMeetings 24 = .ok (.invokestatic 97, 3) := by decide +kernel
theorem dX3_turnMeetings_27 : decode cX3_turnMeetings 27 = .ok (.ifCond .eq 45, 3) := by decide +kernel
theorem dX3_turnMeetings_30 : decode cX3_turnMeetings 30 = .ok (.aload_n 0, 1) := by decide +kernel
theorem dX3_turnMeetings_31 : decode cX3_turnMeetings 31 = .ok (.getfield 18, 3) := by decide +kernel
theorem dX3_turnMeetings_34 : decode cX3_turnMeetings 34 = .ok (.iload_n 3, 1) := by decide +kernel
theorem dX3_turnMeetings_35 : decode cX3_turnMeetings 35 = .ok (.aload_n 0, 1) := by decide +kernel
theorem dX3_turnMeetings_36 : decode cX3_turnMeetings 36 = .ok (.getfield 18, 3) := by decide +kernel
theorem dX3_turnMeetings_39 : decode cX3_turnMeetings 39 = .ok (.iload_n 3, 1) := by decide +kernel
theorem dX3_turnMeetings_40 : decode cX3_turnMeetings 40 = .ok (.iaload, 1) := by decide +kernel
theorem dX3_turnMeetings_41 : decode cX3_turnMeetings 41 = .ok (.iload_n 2, 1) := by decide +kernel
theorem dX3_turnMeetings_42 : decode cX3_turnMeetings 42 = .ok (.invokestatic 100, 3) := by decide +kernel
theorem dX3_turnMeetings_45 : decode cX3_turnMeetings 45 = .ok (.iastore, 1) := by decide +kernel
theorem dX3_turnMeetings_46 : decode cX3_turnMeetings 46 = .ok (.aload_n 0, 1) := by decide +kernel
theorem dX3_turnMeetings_47 : decode cX3_turnMeetings 47 = .ok (.getfield 21, 3) := by decide +kernel
theorem dX3_turnMeetings_50 : decode cX3_turnMeetings 50 = .ok (.iload_n 3, 1) := by decide +kernel
theorem dX3_turnMeetings_51 : decode cX3_turnMeetings 51 = .ok (.aload_n 0, 1) := by decide +kernel
theorem dX3_turnMeetings_52 : decode cX3_turnMeetings 52 = .ok (.getfield 21, 3) := by decide +kernel
theorem dX3_turnMeetings_55 : decode cX3_turnMeetings 55 = .ok (.iload_n 3, 1) := by decide +kernel
theorem dX3_turnMeetings_56 : decode cX3_turnMeetings 56 = .ok (.iaload, 1) := by decide +kernel
theorem dX3_turnMeetings_57 : decode cX3_turnMeetings 57 = .ok (.iload_n 2, 1) := by decide +kernel
theorem dX3_turnMeetings_58 : decode cX3_turnMeetings 58 = .ok (.invokestatic 100, 3) := by decide +kernel
theorem dX3_turnMeetings_61 : decode cX3_turnMeetings 61 = .ok (.iastore, 1) := by decide +kernel
theorem dX3_turnMeetings_62 : decode cX3_turnMeetings 62 = .ok (.aload_n 0, 1) := by decide +kernel
theorem dX3_turnMeetings_63 : decode cX3_turnMeetings 63 = .ok (.dup, 1) := by decide +kernel
theorem dX3_turnMeetings_64 : decode cX3_turnMeetings 64 = .ok (.getfield 60, 3) := by decide +kernel
theorem dX3_turnMeetings_67 : decode cX3_turnMeetings 67 = .ok (.iload_n 1, 1) := by decide +kernel
theorem dX3_turnMeetings_68 : decode cX3_turnMeetings 68 = .ok (.iadd, 1) := by decide +kernel
theorem dX3_turnMeetings_69 : decode cX3_turnMeetings 69 = .ok (.putfield 60, 3) := by decide +kernel
theorem dX3_turnMeetings_72 : decode cX3_turnMeetings 72 = .ok (.iinc 3 1, 3) := by decide +kernel
theorem dX3_turnMeetings_75 : decode cX3_turnMeetings 75 = .ok (.goto (-63), 3) := by decide +kernel
theorem dX3_turnMeetings_78 : decode cX3_turnMeetings 78 = .ok (.return_, 1) := by decide +kernel
theorem dX3_turnRound_0 : decode cX3_turnRound 0 = .ok (.iconst 0, 1) := by decide +kernel
theorem dX3_turnRound_1 : decode cX3_turnRound 1 = .ok (.istore_n 1, 1) := by decide +kernel
theorem dX3_turnRound_2 : decode cX3_turnRound 2 = .ok (.iload_n 1, 1) := by decide +kernel
theorem dX3_turnRound_3 : decode cX3_turnRound 3 = .ok (.bipush 96, 2) := by decide +kernel
theorem dX3_turnRound_5 : decode cX3_turnRound 5 = .ok (.if_icmp .ge 41, 3) := by decide +kernel
theorem dX3_turnRound_8 : decode cX3_turnRound 8 = .ok (.aload_n 0, 1) := by decide +kernel
theorem dX3_turnRound_9 : decode cX3_turnRound 9 = .ok (.getfield 18, 3) := by decide +kernel
theorem dX3_turnRound_12 : decode cX3_turnRound 12 = .ok (.iload_n 1, 1) := by decide +kernel
theorem dX3_turnRound_13 : decode cX3_turnRound 13 = .ok (.aload_n 0, 1) := by decide +kernel
theorem dX3_turnRound_14 : decode cX3_turnRound 14 = .ok (.getfield 18, 3) := by decide +kernel
theorem dX3_turnRound_17 : decode cX3_turnRound 17 = .ok (.iload_n 1, 1) := by decide +kernel
theorem dX3_turnRound_18 : decode cX3_turnRound 18 = .ok (.iaload, 1) := by decide +kernel
theorem dX3_turnRound_19 : decode cX3_turnRound 19 = .ok (.iconst 2, 1) := by decide +kernel
theorem dX3_turnRound_20 : decode cX3_turnRound 20 = .ok (.invokestatic 100, 3) := by decide +kernel
theorem dX3_turnRound_23 : decode cX3_turnRound 23 = .ok (.iastore, 1) := by decide +kernel
theorem dX3_turnRound_24 : decode cX3_turnRound 24 = .ok (.aload_n 0, 1) := by decide +kernel
theorem dX3_turnRound_25 : decode cX3_turnRound 25 = .ok (.getfield 21, 3) := by decide +kernel
theorem dX3_turnRound_28 : decode cX3_turnRound 28 = .ok (.iload_n 1, 1) := by decide +kernel
theorem dX3_turnRound_29 : decode cX3_turnRound 29 = .ok (.aload_n 0, 1) := by decide +kernel
theorem dX3_turnRound_30 : decode cX3_turnRound 30 = .ok (.getfield 21, 3) := by decide +kernel
theorem dX3_turnRound_33 : decode cX3_turnRound 33 = .ok (.iload_n 1, 1) := by decide +kernel
theorem dX3_turnRound_34 : decode cX3_turnRound 34 = .ok (.iaload, 1) := by decide +kernel
theorem dX3_turnRound_35 : decode cX3_turnRound 35 = .ok (.iconst 2, 1) := by decide +kernel
theorem dX3_turnRound_36 : decode cX3_turnRound 36 = .ok (.invokestatic 100, 3) := by decide +kernel
theorem dX3_turnRound_39 : decode cX3_turnRound 39 = .ok (.iastore, 1) := by decide +kernel
theorem dX3_turnRound_40 : decode cX3_turnRound 40 = .ok (.iinc 1 1, 3) := by decide +kernel
theorem dX3_turnRound_43 : decode cX3_turnRound 43 = .ok (.goto (-41), 3) := by decide +kernel
theorem dX3_turnRound_46 : decode cX3_turnRound 46 = .ok (.return_, 1) := by decide +kernel
theorem dX3_hopAll_0 : decode cX3_hopAll 0 = .ok (.aload_n 0, 1) := by decide +kernel
theorem dX3_hopAll_1 : decode cX3_hopAll 1 = .ok (.getfield 24, 3) := by decide +kernel
theorem dX3_hopAll_4 : decode cX3_hopAll 4 = .ok (.iconst 0, 1) := by decide +kernel
theorem dX3_hopAll_5 : decode cX3_hopAll 5 = .ok (.invokestatic 48, 3) := by decide +kernel
theorem dX3_hopAll_8 : decode cX3_hopAll 8 = .ok (.aload_n 0, 1) := by decide +kernel
theorem dX3_hopAll_9 : decode cX3_hopAll 9 = .ok (.getfield 27, 3) := by decide +kernel
theorem dX3_hopAll_12 : decode cX3_hopAll 12 = .ok (.iconst 0, 1) := by decide +kernel
theorem dX3_hopAll_13 : decode cX3_hopAll 13 = .ok (.invokestatic 48, 3) := by decide +kernel
theorem dX3_hopAll_16 : decode cX3_hopAll 16 = .ok (.iconst 0, 1) := by decide +kernel
theorem dX3_hopAll_17 : decode cX3_hopAll 17 = .ok (.istore_n 2, 1) := by decide +kernel
theorem dX3_hopAll_18 : decode cX3_hopAll 18 = .ok (.iload_n 2, 1) := by decide +kernel
theorem dX3_hopAll_19 : decode cX3_hopAll 19 = .ok (.bipush 96, 2) := by decide +kernel
theorem dX3_hopAll_21 : decode cX3_hopAll 21 = .ok (.if_icmp .ge 51, 3) := by decide +kernel
theorem dX3_hopAll_24 : decode cX3_hopAll 24 = .ok (.iconst 0, 1) := by decide +kernel
theorem dX3_hopAll_25 : decode cX3_hopAll 25 = .ok (.istore_n 3, 1) := by decide +kernel
theorem dX3_hopAll_26 : decode cX3_hopAll 26 = .ok (.iload_n 3, 1) := by decide +kernel
theorem dX3_hopAll_27 : decode cX3_hopAll 27 = .ok (.iconst 4, 1) := by decide +kernel
theorem dX3_hopAll_28 : decode cX3_hopAll 28 = .ok (.if_icmp .ge 38, 3) := by decide +kernel
theorem dX3_hopAll_31 : decode cX3_hopAll 31 = .ok (.aload_n 0, 1) := by decide +kernel
theorem dX3_hopAll_32 : decode cX3_hopAll 32 = .ok (.getfield 18, 3) := by decide +kernel
theorem dX3_hopAll_35 : decode cX3_hopAll 35 = .ok (.iload_n 2, 1) := by decide +kernel
theorem dX3_hopAll_36 : decode cX3_hopAll 36 = .ok (.iaload, 1) := by decide +kernel
theorem dX3_hopAll_37 : decode cX3_hopAll 37 = .ok (.ifCond .eq 29, 3) := by decide +kernel
theorem dX3_hopAll_40 : decode cX3_hopAll 40 = .ok (.aload_n 0, 1) := by decide +kernel
theorem dX3_hopAll_41 : decode cX3_hopAll 41 = .ok (.getfield 18, 3) := by decide +kernel
theorem dX3_hopAll_44 : decode cX3_hopAll 44 = .ok (.iload_n 2, 1) := by decide +kernel
theorem dX3_hopAll_45 : decode cX3_hopAll 45 = .ok (.iaload, 1) := by decide +kernel
theorem dX3_hopAll_46 : decode cX3_hopAll 46 = .ok (.iload_n 3, 1) := by decide +kernel
theorem dX3_hopAll_47 : decode cX3_hopAll 47 = .ok (.invokestatic 103, 3) := by decide +kernel
theorem dX3_hopAll_50 : decode cX3_hopAll 50 = .ok (.ifCond .eq 10, 3) := by decide +kernel
theorem dX3_hopAll_53 : decode cX3_hopAll 53 = .ok (.aload_n 0, 1) := by decide +kernel
theorem dX3_hopAll_54 : decode cX3_hopAll 54 = .ok (.iload_n 2, 1) := by decide +kernel
theorem dX3_hopAll_55 : decode cX3_hopAll 55 = .ok (.iload_n 3, 1) := by decide +kernel
theorem dX3_hopAll_56 : decode cX3_hopAll 56 = .ok (.iload_n 1, 1) := by decide +kernel
theorem dX3_hopAll_57 : decode cX3_hopAll 57 = .ok (.invokevirtual 107, 3) := by decide +kernel
theorem dX3_hopAll_60 : decode cX3_hopAll 60 = .ok (.iinc 3 1, 3) := by decide +kernel
theorem dX3_hopAll_63 : decode cX3_hopAll 63 = .ok (.goto (-37), 3) := by decide +kernel
theorem dX3_hopAll_66 : decode cX3_hopAll 66 = .ok (.iinc 2 1, 3) := by decide +kernel
theorem dX3_hopAll_69 : decode cX3_hopAll 69 = .ok (.goto (-51), 3) := by decide +kernel
theorem dX3_hopAll_72 : decode cX3_hopAll 72 = .ok (.aload_n 0, 1) := by decide +kernel
theorem dX3_hopAll_73 : decode cX3_hopAll 73 = .ok (.getfield 24, 3) := by decide +kernel
theorem dX3_hopAll_76 : decode cX3_hopAll 76 = .ok (.iconst 0, 1) := by decide +kernel
theorem dX3_hopAll_77 : decode cX3_hopAll 77 = .ok (.aload_n 0, 1) := by decide +kernel
theorem dX3_hopAll_78 : decode cX3_hopAll 78 = .ok (.getfield 18, 3) := by decide +kernel
theorem dX3_hopAll_81 : decode cX3_hopAll 81 = .ok (.iconst 0, 1) := by decide +kernel
theorem dX3_hopAll_82 : decode cX3_hopAll 82 = .ok (.bipush 96, 2) := by decide +kernel
theorem dX3_hopAll_84 : decode cX3_hopAll 84 = .ok (.invokestatic 54, 3) := by decide +kernel
theorem dX3_hopAll_87 : decode cX3_hopAll 87 = .ok (.aload_n 0, 1) := by decide +kernel
theorem dX3_hopAll_88 : decode cX3_hopAll 88 = .ok (.getfield 27, 3) := by decide +kernel
theorem dX3_hopAll_91 : decode cX3_hopAll 91 = .ok (.iconst 0, 1) := by decide +kernel
theorem dX3_hopAll_92 : decode cX3_hopAll 92 = .ok (.aload_n 0, 1) := by decide +kernel
theorem dX3_hopAll_93 : decode cX3_hopAll 93 = .ok (.getfield 21, 3) := by decide +kernel
theorem dX3_hopAll_96 : decode cX3_hopAll 96 = .ok (.iconst 0, 1) := by decide +kernel
theorem dX3_hopAll_97 : decode cX3_hopAll 97 = .ok (.bipush 96, 2) := by decide +kernel
theorem dX3_hopAll_99 : decode cX3_hopAll 99 = .ok (.invokestatic 54, 3) := by decide +kernel
theorem dX3_hopAll_102 : decode cX3_hopAll 102 = .ok (.return_, 1) := by decide +kernel
theorem dX3_hopOne_0 : decode cX3_hopOne 0 = .ok (.iload_n 1, 1) := by decide +kernel
theorem dX3_hopOne_1 : decode cX3_hopOne 1 = .ok (.iload_n 2, 1) := by decide +kernel
theorem dX3_hopOne_2 : decode cX3_hopOne 2 = .ok (.invokestatic 111, 3) := by decide +kernel
theorem dX3_hopOne_5 : decode cX3_hopOne 5 = .ok (.istore 4, 2) := by decide +kernel
theorem dX3_hopOne_7 : decode cX3_hopOne 7 = .ok (.iload 4, 2) := by decide +kernel
theorem dX3_hopOne_9 : decode cX3_hopOne 9 = .ok (.istore 5, 2) := by decide +kernel
theorem dX3_hopOne_11 : decode cX3_hopOne 11 = .ok (.iload_n 2, 1) := by decide +kernel
theorem dX3_hopOne_12 : decode cX3_hopOne 12 = .ok (.istore 6, 2) := by decide +kernel
theorem dX3_hopOne_14 : decode cX3_hopOne 14 = .ok (.aload_n 0, 1) := by decide +kernel
theorem dX3_hopOne_15 : decode cX3_hopOne 15 = .ok (.iload 4, 2) := by decide +kernel
theorem dX3_hopOne_17 : decode cX3_hopOne 17 = .ok (.invokevirtual 114, 3) := by decide +kernel
theorem dX3_hopOne_20 : decode cX3_hopOne 20 = .ok (.ifCond .eq 20, 3) := by decide +kernel
theorem dX3_hopOne_23 : decode cX3_hopOne 23 = .ok (.aload_n 0, 1) := by decide +kernel
theorem dX3_hopOne_24 : decode cX3_hopOne 24 = .ok (.iload 4, 2) := by decide +kernel
theorem dX3_hopOne_26 : decode cX3_hopOne 26 = .ok (.iload_n 2, 1) := by decide +kernel
theorem dX3_hopOne_27 : decode cX3_hopOne 27 = .ok (.iload_n 3, 1) := by decide +kernel
theorem dX3_hopOne_28 : decode cX3_hopOne 28 = .ok (.invokevirtual 117, 3) := by decide +kernel
theorem dX3_hopOne_31 : decode cX3_hopOne 31 = .ok (.iload_n 1, 1) := by decide +kernel
theorem dX3_hopOne_32 : decode cX3_hopOne 32 = .ok (.istore 5, 2) := by decide +kernel
theorem dX3_hopOne_34 : decode cX3_hopOne 34 = .ok (.iload_n 2, 1) := by decide +kernel
theorem dX3_hopOne_35 : decode cX3_hopOne 35 = .ok (.invokestatic 78, 3) := by decide +kernel
theorem dX3_hopOne_38 : decode cX3_hopOne 38 = .ok (.istore 6, 2) := by decide +kernel
theorem dX3_hopOne_40 : decode cX3_hopOne 40 = .ok (.aload_n 0, 1) := by decide +kernel
theorem dX3_hopOne_41 : decode cX3_hopOne 41 = .ok (.getfield 24, 3) := by decide +kernel
theorem dX3_hopOne_44 : decode cX3_hopOne 44 = .ok (.iload 5, 2) := by decide +kernel
theorem dX3_hopOne_46 : decode cX3_hopOne 46 = .ok (.dup2, 1) := by decide +kernel
theorem dX3_hopOne_47 : decode cX3_hopOne 47 = .ok (.iaload, 1) := by decide +kernel
theorem dX3_hopOne_48 : decode cX3_hopOne 48 = .ok (.iconst 1, 1) := by decide +kernel
theorem dX3_hopOne_49 : decode cX3_hopOne 49 = .ok (.iload 6, 2) := by decide +kernel
theorem dX3_hopOne_51 : decode cX3_hopOne 51 = .ok (.ishl, 1) := by decide +kernel
theorem dX3_hopOne_52 : decode cX3_hopOne 52 = .ok (.ior, 1) := by decide +kernel
theorem dX3_hopOne_53 : decode cX3_hopOne 53 = .ok (.iastore, 1) := by decide +kernel
theorem dX3_hopOne_54 : decode cX3_hopOne 54 = .ok (.aload_n 0, 1) := by decide +kernel
theorem dX3_hopOne_55 : decode cX3_hopOne 55 = .ok (.getfield 27, 3) := by decide +kernel
theorem dX3_hopOne_58 : decode cX3_hopOne 58 = .ok (.iload 5, 2) := by decide +kernel
theorem dX3_hopOne_60 : decode cX3_hopOne 60 = .ok (.dup2, 1) := by decide +kernel
theorem dX3_hopOne_61 : decode cX3_hopOne 61 = .ok (.iaload, 1) := by decide +kernel
theorem dX3_hopOne_62 : decode cX3_hopOne 62 = .ok (.aload_n 0, 1) := by decide +kernel
theorem dX3_hopOne_63 : decode cX3_hopOne 63 = .ok (.getfield 21, 3) := by decide +kernel
theorem dX3_hopOne_66 : decode cX3_hopOne 66 = .ok (.iload_n 1, 1) := by decide +kernel
theorem dX3_hopOne_67 : decode cX3_hopOne 67 = .ok (.iaload, 1) := by decide +kernel
theorem dX3_hopOne_68 : decode cX3_hopOne 68 = .ok (.iload_n 2, 1) := by decide +kernel
theorem dX3_hopOne_69 : decode cX3_hopOne 69 = .ok (.ishr, 1) := by decide +kernel
theorem dX3_hopOne_70 : decode cX3_hopOne 70 = .ok (.iconst 1, 1) := by decide +kernel
theorem dX3_hopOne_71 : decode cX3_hopOne 71 = .ok (.iand, 1) := by decide +kernel
theorem dX3_hopOne_72 : decode cX3_hopOne 72 = .ok (.iload 6, 2) := by decide +kernel
theorem dX3_hopOne_74 : decode cX3_hopOne 74 = .ok (.ishl, 1) := by decide +kernel
theorem dX3_hopOne_75 : decode cX3_hopOne 75 = .ok (.ior, 1) := by decide +kernel
theorem dX3_hopOne_76 : decode cX3_hopOne 76 = .ok (.iastore, 1) := by decide +kernel
theorem dX3_hopOne_77 : decode cX3_hopOne 77 = .ok (.return_, 1) := by decide +kernel
theorem dX3_countHit_0 : decode cX3_countHit 0 = .ok (.aload_n 0, 1) := by decide +kernel
theorem dX3_countHit_1 : decode cX3_countHit 1 = .ok (.getfield 45, 3) := by decide +kernel
theorem dX3_countHit_4 : decode cX3_countHit 4 = .ok (.iload_n 2, 1) := by decide +kernel
theorem dX3_countHit_5 : decode cX3_countHit 5 = .ok (.dup2, 1) := by decide +kernel
theorem dX3_countHit_6 : decode cX3_countHit 6 = .ok (.iaload, 1) := by decide +kernel
theorem dX3_countHit_7 : decode cX3_countHit 7 = .ok (.iload_n 3, 1) := by decide +kernel
theorem dX3_countHit_8 : decode cX3_countHit 8 = .ok (.iadd, 1) := by decide +kernel
theorem dX3_countHit_9 : decode cX3_countHit 9 = .ok (.iastore, 1) := by decide +kernel
theorem dX3_countHit_10 : decode cX3_countHit 10 = .ok (.iload_n 1, 1) := by decide +kernel
theorem dX3_countHit_11 : decode cX3_countHit 11 = .ok (.invokestatic 64, 3) := by decide +kernel
theorem dX3_countHit_14 : decode cX3_countHit 14 = .ok (.ifCond .ne 15, 3) := by decide +kernel
theorem dX3_countHit_17 : decode cX3_countHit 17 = .ok (.aload_n 0, 1) := by decide +kernel
theorem dX3_countHit_18 : decode cX3_countHit 18 = .ok (.getfield 15, 3) := by decide +kernel
theorem dX3_countHit_21 : decode cX3_countHit 21 = .ok (.iload_n 1, 1) := by decide +kernel
theorem dX3_countHit_22 : decode cX3_countHit 22 = .ok (.iaload, 1) := by decide +kernel
theorem dX3_countHit_23 : decode cX3_countHit 23 = .ok (.invokestatic 120, 3) := by decide +kernel
theorem dX3_countHit_26 : decode cX3_countHit 26 = .ok (.ifCond .eq 4, 3) := by decide +kernel
theorem dX3_countHit_29 : decode cX3_countHit 29 = .ok (.return_, 1) := by decide +kernel
theorem dX3_countHit_30 : decode cX3_countHit 30 = .ok (.aload_n 0, 1) := by decide +kernel
theorem dX3_countHit_31 : decode cX3_countHit 31 = .ok (.getfield 15, 3) := by decide +kernel
theorem dX3_countHit_34 : decode cX3_countHit 34 = .ok (.iload_n 1, 1) := by decide +kernel
theorem dX3_countHit_35 : decode cX3_countHit 35 = .ok (.iaload, 1) := by decide +kernel
theorem dX3_countHit_36 : decode cX3_countHit 36 = .ok (.istore 4, 2) := by decide +kernel
theorem dX3_countHit_38 : decode cX3_countHit 38 = .ok (.aload_n 0, 1) := by decide +kernel
theorem dX3_countHit_39 : decode cX3_countHit 39 = .ok (.getfield 30, 3) := by decide +kernel
theorem dX3_countHit_42 : decode cX3_countHit 42 = .ok (.iload 4, 2) := by decide +kernel
theorem dX3_countHit_44 : decode cX3_countHit 44 = .ok (.dup2, 1) := by decide +kernel
theorem dX3_countHit_45 : decode cX3_countHit 45 = .ok (.iaload, 1) := by decide +kernel
theorem dX3_countHit_46 : decode cX3_countHit 46 = .ok (.iload_n 3, 1) := by decide +kernel
theorem dX3_countHit_47 : decode cX3_countHit 47 = .ok (.iadd, 1) := by decide +kernel
theorem dX3_countHit_48 : decode cX3_countHit 48 = .ok (.iastore, 1) := by decide +kernel
theorem dX3_countHit_49 : decode cX3_countHit 49 = .ok (.iload_n 2, 1) := by decide +kernel
theorem dX3_countHit_50 : decode cX3_countHit 50 = .ok (.ifCond .eq 8, 3) := by decide +kernel
theorem dX3_countHit_53 : decode cX3_countHit 53 = .ok (.iload_n 2, 1) := by decide +kernel
theorem dX3_countHit_54 : decode cX3_countHit 54 = .ok (.iconst 1, 1) := by decide +kernel
theorem dX3_countHit_55 : decode cX3_countHit 55 = .ok (.if_icmp .ne 9, 3) := by decide +kernel
theorem dX3_countHit_58 : decode cX3_countHit 58 = .ok (.iconst 2, 1) := by decide +kernel
theorem dX3_countHit_59 : decode cX3_countHit 59 = .ok (.iload_n 3, 1) := by decide +kernel
theorem dX3_countHit_60 : decode cX3_countHit 60 = .ok (.imul, 1) := by decide +kernel
theorem dX3_countHit_61 : decode cX3_countHit 61 = .ok (.goto 7, 3) := by decide +kernel
theorem dX3_countHit_64 : decode cX3_countHit 64 = .ok (.bipush (-2), 2) := by decide +kernel
theorem dX3_countHit_66 : decode cX3_countHit 66 = .ok (.iload_n 3, 1) := by decide +kernel
theorem dX3_countHit_67 : decode cX3_countHit 67 = .ok (.imul, 1) := by decide +kernel
theorem dX3_countHit_68 : decode cX3_countHit 68 = .ok (.istore 5, 2) := by decide +kernel
theorem dX3_countHit_70 : decode cX3_countHit 70 = .ok (.iload_n 2, 1) := by decide +kernel
theorem dX3_countHit_71 : decode cX3_countHit 71 = .ok (.ifCond .eq 8, 3) := by decide +kernel
theorem dX3_countHit_74 : decode cX3_countHit 74 = .ok (.iload_n 2, 1) := by decide +kernel
theorem dX3_countHit_75 : decode cX3_countHit 75 = .ok (.iconst 2, 1) := by decide +kernel
theorem dX3_countHit_76 : decode cX3_countHit 76 = .ok (.if_icmp .ne 18, 3) := by decide +kernel
theorem dX3_countHit_79 : decode cX3_countHit 79 = .ok (.aload_n 0, 1) := by decide +kernel
theorem dX3_countHit_80 : decode cX3_countHit 80 = .ok (.getfield 33, 3) := by decide +kernel
theorem dX3_countHit_83 : decode cX3_countHit 83 = .ok (.iload 4, 2) := by decide +kernel
theorem dX3_countHit_85 : decode cX3_countHit 85 = .ok (.dup2, 1) := by decide +kernel
theorem dX3_countHit_86 : decode cX3_countHit 86 = .ok (.iaload, 1) := by decide +kernel
theorem dX3_countHit_87 : decode cX3_countHit 87 = .ok (.iload 5, 2) := by decide +kernel
theorem dX3_countHit_89 : decode cX3_countHit 89 = .ok (.iadd, 1) := by decide +kernel
theorem dX3_countHit_90 : decode cX3_countHit 90 = .ok (.iastore, 1) := by decide +kernel
theorem dX3_countHit_91 : decode cX3_countHit 91 = .ok (.goto 15, 3) := by decide +kernel
theorem dX3_countHit_94 : decode cX3_countHit 94 = .ok (.aload_n 0, 1) := by decide +kernel
theorem dX3_countHit_95 : decode cX3_countHit 95 = .ok (.getfield 36, 3) := by decide +kernel
theorem dX3_countHit_98 : decode cX3_countHit 98 = .ok (.iload 4, 2) := by decide +kernel
theorem dX3_countHit_100 : decode cX3_countHit 100 = .ok (.dup2, 1) := by decide +kernel
theorem dX3_countHit_101 : decode cX3_countHit 101 = .ok (.iaload, 1) := by decide +kernel
theorem dX3_countHit_102 : decode cX3_countHit 102 = .ok (.iload 5, 2) := by decide +kernel
theorem dX3_countHit_104 : decode cX3_countHit 104 = .ok (.iadd, 1) := by decide +kernel
theorem dX3_countHit_105 : decode cX3_countHit 105 = .ok (.iastore, 1) := by decide +kernel
theorem dX3_countHit_106 : decode cX3_countHit 106 = .ok (.return_, 1) := by decide +kernel
theorem dX3_emptyOutlets_0 : decode cX3_emptyOutlets 0 = .ok (.iconst 0, 1) := by decide +kernel
theorem dX3_emptyOutlets_1 : decode cX3_emptyOutlets 1 = .ok (.istore_n 1, 1) := by decide +kernel
theorem dX3_emptyOutlets_2 : decode cX3_emptyOutlets 2 = .ok (.iload_n 1, 1) := by decide +kernel
theorem dX3_emptyOutlets_3 : decode cX3_emptyOutlets 3 = .ok (.bipush 96, 2) := by decide +kernel
theorem dX3_emptyOutlets_5 : decode cX3_emptyOutlets 5 = .ok (.if_icmp .ge 65, 3) := by decide +kernel
theorem dX3_emptyOutlets_8 : decode cX3_emptyOutlets 8 = .ok (.aload_n 0, 1) := by decide +kernel
theorem dX3_emptyOutlets_9 : decode cX3_emptyOutlets 9 = .ok (.getfield 9, 3) := by decide +kernel
theorem dX3_emptyOutlets_12 : decode cX3_emptyOutlets 12 = .ok (.iload_n 1, 1) := by decide +kernel
theorem dX3_emptyOutlets_13 : decode cX3_emptyOutlets 13 = .ok (.iaload, 1) := by decide +kernel
theorem dX3_emptyOutlets_14 : decode cX3_emptyOutlets 14 = .ok (.iconst 3, 1) := by decide +kernel
theorem dX3_emptyOutlets_15 : decode cX3_emptyOutlets 15 = .ok (.if_icmp .ne 49, 3) := by decide +kernel
theorem dX3_emptyOutlets_18 : decode cX3_emptyOutlets 18 = .ok (.iconst 0, 1) := by decide +kernel
theorem dX3_emptyOutlets_19 : decode cX3_emptyOutlets 19 = .ok (.istore_n 2, 1) := by decide +kernel
theorem dX3_emptyOutlets_20 : decode cX3_emptyOutlets 20 = .ok (.iload_n 2, 1) := by decide +kernel
theorem dX3_emptyOutlets_21 : decode cX3_emptyOutlets 21 = .ok (.iconst 4, 1) := by decide +kernel
theorem dX3_emptyOutlets_22 : decode cX3_emptyOutlets 22 = .ok (.if_icmp .ge 28, 3) := by decide +kernel
theorem dX3_emptyOutlets_25 : decode cX3_emptyOutlets 25 = .ok (.aload_n 0, 1) := by decide +kernel
theorem dX3_emptyOutlets_26 : decode cX3_emptyOutlets 26 = .ok (.getfield 42, 3) := by decide +kernel
theorem dX3_emptyOutlets_29 : decode cX3_emptyOutlets 29 = .ok (.iload_n 2, 1) := by decide +kernel
theorem dX3_emptyOutlets_30 : decode cX3_emptyOutlets 30 = .ok (.dup2, 1) := by decide +kernel
theorem dX3_emptyOutlets_31 : decode cX3_emptyOutlets 31 = .ok (.iaload, 1) := by decide +kernel
theorem dX3_emptyOutlets_32 : decode cX3_emptyOutlets 32 = .ok (.aload_n 0, 1) := by decide +kernel
theorem dX3_emptyOutlets_33 : decode cX3_emptyOutlets 33 = .ok (.getfield 18, 3) := by decide +kernel
theorem dX3_emptyOutlets_36 : decode cX3_emptyOutlets 36 = .ok (.iload_n 1, 1) := by decide +kernel
theorem dX3_emptyOutlets_37 : decode cX3_emptyOutlets 37 = .ok (.iaload, 1) := by decide +kernel
theorem dX3_emptyOutlets_38 : decode cX3_emptyOutlets 38 = .ok (.iload_n 2, 1) := by decide +kernel
theorem dX3_emptyOutlets_39 : decode cX3_emptyOutlets 39 = .ok (.ishr, 1) := by decide +kernel
theorem dX3_emptyOutlets_40 : decode cX3_emptyOutlets 40 = .ok (.iconst 1, 1) := by decide +kernel
theorem dX3_emptyOutlets_41 : decode cX3_emptyOutlets 41 = .ok (.iand, 1) := by decide +kernel
theorem dX3_emptyOutlets_42 : decode cX3_emptyOutlets 42 = .ok (.iadd, 1) := by decide +kernel
theorem dX3_emptyOutlets_43 : decode cX3_emptyOutlets 43 = .ok (.iastore, 1) := by decide +kernel
theorem dX3_emptyOutlets_44 : decode cX3_emptyOutlets 44 = .ok (.iinc 2 1, 3) := by decide +kernel
theorem dX3_emptyOutlets_47 : decode cX3_emptyOutlets 47 = .ok (.goto (-27), 3) := by decide +kernel
theorem dX3_emptyOutlets_50 : decode cX3_emptyOutlets 50 = .ok (.aload_n 0, 1) := by decide +kernel
theorem dX3_emptyOutlets_51 : decode cX3_emptyOutlets 51 = .ok (.getfield 18, 3) := by decide +kernel
theorem dX3_emptyOutlets_54 : decode cX3_emptyOutlets 54 = .ok (.iload_n 1, 1) := by decide +kernel
theorem dX3_emptyOutlets_55 : decode cX3_emptyOutlets 55 = .ok (.iconst 0, 1) := by decide +kernel
theorem dX3_emptyOutlets_56 : decode cX3_emptyOutlets 56 = .ok (.iastore, 1) := by decide +kernel
theorem dX3_emptyOutlets_57 : decode cX3_emptyOutlets 57 = .ok (.aload_n 0, 1) := by decide +kernel
theorem dX3_emptyOutlets_58 : decode cX3_emptyOutlets 58 = .ok (.getfield 21, 3) := by decide +kernel
theorem dX3_emptyOutlets_61 : decode cX3_emptyOutlets 61 = .ok (.iload_n 1, 1) := by decide +kernel
theorem dX3_emptyOutlets_62 : decode cX3_emptyOutlets 62 = .ok (.iconst 0, 1) := by decide +kernel
theorem dX3_emptyOutlets_63 : decode cX3_emptyOutlets 63 = .ok (.iastore, 1) := by decide +kernel
theorem dX3_emptyOutlets_64 : decode cX3_emptyOutlets 64 = .ok (.iinc 1 1, 3) := by decide +kernel
theorem dX3_emptyOutlets_67 : decode cX3_emptyOutlets 67 = .ok (.goto (-65), 3) := by decide +kernel
theorem dX3_emptyOutlets_70 : decode cX3_emptyOutlets 70 = .ok (.return_, 1) := by decide +kernel
theorem dX3_fillInlets_0 : decode cX3_fillInlets 0 = .ok (.iconst 0, 1) := by decide +kernel
theorem dX3_fillInlets_1 : decode cX3_fillInlets 1 = .ok (.istore_n 1, 1) := by decide +kernel
theorem dX3_fillInlets_2 : decode cX3_fillInlets 2 = .ok (.iload_n 1, 1) := by decide +kernel
theorem dX3_fillInlets_3 : decode cX3_fillInlets 3 = .ok (.bipush 96, 2) := by decide +kernel
theorem dX3_fillInlets_5 : decode cX3_fillInlets 5 = .ok (.if_icmp .ge 38, 3) := by decide +kernel
theorem dX3_fillInlets_8 : decode cX3_fillInlets 8 = .ok (.aload_n 0, 1) := by decide +kernel
theorem dX3_fillInlets_9 : decode cX3_fillInlets 9 = .ok (.getfield 9, 3) := by decide +kernel
theorem dX3_fillInlets_12 : decode cX3_fillInlets 12 = .ok (.iload_n 1, 1) := by decide +kernel
theorem dX3_fillInlets_13 : decode cX3_fillInlets 13 = .ok (.iaload, 1) := by decide +kernel
theorem dX3_fillInlets_14 : decode cX3_fillInlets 14 = .ok (.iconst 2, 1) := by decide +kernel
theorem dX3_fillInlets_15 : decode cX3_fillInlets 15 = .ok (.if_icmp .ne 22, 3) := by decide +kernel
theorem dX3_fillInlets_18 : decode cX3_fillInlets 18 = .ok (.aload_n 0, 1) := by decide +kernel
theorem dX3_fillInlets_19 : decode cX3_fillInlets 19 = .ok (.getfield 18, 3) := by decide +kernel
theorem dX3_fillInlets_22 : decode cX3_fillInlets 22 = .ok (.iload_n 1, 1) := by decide +kernel
theorem dX3_fillInlets_23 : decode cX3_fillInlets 23 = .ok (.iaload, 1) := by decide +kernel
theorem dX3_fillInlets_24 : decode cX3_fillInlets 24 = .ok (.iconst 0, 1) := by decide +kernel
theorem dX3_fillInlets_25 : decode cX3_fillInlets 25 = .ok (.invokestatic 103, 3) := by decide +kernel
theorem dX3_fillInlets_28 : decode cX3_fillInlets 28 = .ok (.ifCond .ne 9, 3) := by decide +kernel
theorem dX3_fillInlets_31 : decode cX3_fillInlets 31 = .ok (.aload_n 0, 1) := by decide +kernel
theorem dX3_fillInlets_32 : decode cX3_fillInlets 32 = .ok (.iload_n 1, 1) := by decide +kernel
theorem dX3_fillInlets_33 : decode cX3_fillInlets 33 = .ok (.iconst 0, 1) := by decide +kernel
theorem dX3_fillInlets_34 : decode cX3_fillInlets 34 = .ok (.invokevirtual 123, 3) := by decide +kernel
theorem dX3_fillInlets_37 : decode cX3_fillInlets 37 = .ok (.iinc 1 1, 3) := by decide +kernel
theorem dX3_fillInlets_40 : decode cX3_fillInlets 40 = .ok (.goto (-38), 3) := by decide +kernel
theorem dX3_fillInlets_43 : decode cX3_fillInlets 43 = .ok (.return_, 1) := by decide +kernel
theorem dX4_init_0 : decode cX4_init 0 = .ok (.aload_n 0, 1) := by decide +kernel
theorem dX4_init_1 : decode cX4_init 1 = .ok (.invokespecial 3, 3) := by decide +kernel
theorem dX4_init_4 : decode cX4_init 4 = .ok (.aload_n 0, 1) := by decide +kernel
theorem dX4_init_5 : decode cX4_init 5 = .ok (.iload_n 1, 1) := by decide +kernel
theorem dX4_init_6 : decode cX4_init 6 = .ok (.putfield 9, 3) := by decide +kernel
theorem dX4_init_9 : decode cX4_init 9 = .ok (.aload_n 0, 1) := by decide +kernel
theorem dX4_init_10 : decode cX4_init 10 = .ok (.iload_n 2, 1) := by decide +kernel
theorem dX4_init_11 : decode cX4_init 11 = .ok (.putfield 15, 3) := by decide +kernel
theorem dX4_init_14 : decode cX4_init 14 = .ok (.aload_n 0, 1) := by decide +kernel
theorem dX4_init_15 : decode cX4_init 15 = .ok (.iload_n 3, 1) := by decide +kernel
theorem dX4_init_16 : decode cX4_init 16 = .ok (.putfield 18, 3) := by decide +kernel
theorem dX4_init_19 : decode cX4_init 19 = .ok (.aload_n 0, 1) := by decide +kernel
theorem dX4_init_20 : decode cX4_init 20 = .ok (.iload 4, 2) := by decide +kernel
theorem dX4_init_22 : decode cX4_init 22 = .ok (.putfield 21, 3) := by decide +kernel
theorem dX4_init_25 : decode cX4_init 25 = .ok (.return_, 1) := by decide +kernel
theorem dX4_holds_0 : decode cX4_holds 0 = .ok (.iload_n 1, 1) := by decide +kernel
theorem dX4_holds_1 : decode cX4_holds 1 = .ok (.bipush 12, 2) := by decide +kernel
theorem dX4_holds_3 : decode cX4_holds 3 = .ok (.idiv, 1) := by decide +kernel
theorem dX4_holds_4 : decode cX4_holds 4 = .ok (.aload_n 0, 1) := by decide +kernel
theorem dX4_holds_5 : decode cX4_holds 5 = .ok (.getfield 9, 3) := by decide +kernel
theorem dX4_holds_8 : decode cX4_holds 8 = .ok (.isub, 1) := by decide +kernel
theorem dX4_holds_9 : decode cX4_holds 9 = .ok (.istore_n 2, 1) := by decide +kernel
theorem dX4_holds_10 : decode cX4_holds 10 = .ok (.iload_n 1, 1) := by decide +kernel
theorem dX4_holds_11 : decode cX4_holds 11 = .ok (.bipush 12, 2) := by decide +kernel
theorem dX4_holds_13 : decode cX4_holds 13 = .ok (.irem, 1) := by decide +kernel
theorem dX4_holds_14 : decode cX4_holds 14 = .ok (.aload_n 0, 1) := by decide +kernel
theorem dX4_holds_15 : decode cX4_holds 15 = .ok (.getfield 15, 3) := by decide +kernel
theorem dX4_holds_18 : decode cX4_holds 18 = .ok (.isub, 1) := by decide +kernel
theorem dX4_holds_19 : decode cX4_holds 19 = .ok (.bipush 12, 2) := by decide +kernel
theorem dX4_holds_21 : decode cX4_holds 21 = .ok (.invokestatic 24, 3) := by decide +kernel
theorem dX4_holds_24 : decode cX4_holds 24 = .ok (.istore_n 3, 1) := by decide +kernel
theorem dX4_holds_25 : decode cX4_holds 25 = .ok (.iload_n 2, 1) := by decide +kernel
theorem dX4_holds_26 : decode cX4_holds 26 = .ok (.ifCond .lt 23, 3) := by decide +kernel
theorem dX4_holds_29 : decode cX4_holds 29 = .ok (.iload_n 2, 1) := by decide +kernel
theorem dX4_holds_30 : decode cX4_holds 30 = .ok (.aload_n 0, 1) := by decide +kernel
theorem dX4_holds_31 : decode cX4_holds 31 = .ok (.getfield 18, 3) := by decide +kernel
theorem dX4_holds_34 : decode cX4_holds 34 = .ok (.if_icmp .ge 15, 3) := by decide +kernel
theorem dX4_holds_37 : decode cX4_holds 37 = .ok (.iload_n 3, 1) := by decide +kernel
theorem dX4_holds_38 : decode cX4_holds 38 = .ok (.aload_n 0, 1) := by decide +kernel
theorem dX4_holds_39 : decode cX4_holds 39 = .ok (.getfield 21, 3) := by decide +kernel
theorem dX4_holds_42 : decode cX4_holds 42 = .ok (.if_icmp .ge 7, 3) := by decide +kernel
theorem dX4_holds_45 : decode cX4_holds 45 = .ok (.iconst 1, 1) := by decide +kernel
theorem dX4_holds_46 : decode cX4_holds 46 = .ok (.goto 4, 3) := by decide +kernel
theorem dX4_holds_49 : decode cX4_holds 49 = .ok (.iconst 0, 1) := by decide +kernel
theorem dX4_holds_50 : decode cX4_holds 50 = .ok (.ireturn, 1) := by decide +kernel
theorem dX5_init_0 : decode cX5_init 0 = .ok (.aload_n 0, 1) := by decide +kernel
theorem dX5_init_1 : decode cX5_init 1 = .ok (.invokespecial 1, 3) := by decide +kernel
theorem dX5_init_4 : decode cX5_init 4 = .ok (.aload_n 0, 1) := by decide +kernel
theorem dX5_init_5 : decode cX5_init 5 = .ok (.new 7, 3) := by decide +kernel
theorem dX5_init_8 : decode cX5_init 8 = .ok (.dup, 1) := by decide +kernel
theorem dX5_init_9 : decode cX5_init 9 = .ok (.invokespecial 9, 3) := by decide +kernel
theorem dX5_init_12 : decode cX5_init 12 = .ok (.putfield 10, 3) := by decide +kernel
theorem dX5_init_15 : decode cX5_init 15 = .ok (.aload_n 0, 1) := by decide +kernel
theorem dX5_init_16 : decode cX5_init 16 = .ok (.new 7, 3) := by decide +kernel
theorem dX5_init_19 : decode cX5_init 19 = .ok (.dup, 1) := by decide +kernel
theorem dX5_init_20 : decode cX5_init 20 = .ok (.invokespecial 9, 3) := by decide +kernel
theorem dX5_init_23 : decode cX5_init 23 = .ok (.putfield 16, 3) := by decide +kernel
theorem dX5_init_26 : decode cX5_init 26 = .ok (.aload_n 0, 1) := by decide +kernel
theorem dX5_init_27 : decode cX5_init 27 = .ok (.new 19, 3) := by decide +kernel
theorem dX5_init_30 : decode cX5_init 30 = .ok (.dup, 1) := by decide +kernel
theorem dX5_init_31 : decode cX5_init 31 = .ok (.invokespecial 21, 3) := by decide +kernel
theorem dX5_init_34 : decode cX5_init 34 = .ok (.putfield 22, 3) := by decide +kernel
theorem dX5_init_37 : decode cX5_init 37 = .ok (.aload_n 0, 1) := by decide +kernel
theorem dX5_init_38 : decode cX5_init 38 = .ok (.new 26, 3) := by decide +kernel
theorem dX5_init_41 : decode cX5_init 41 = .ok (.dup, 1) := by decide +kernel
theorem dX5_init_42 : decode cX5_init 42 = .ok (.invokespecial 28, 3) := by decide +kernel
theorem dX5_init_45 : decode cX5_init 45 = .ok (.putfield 29, 3) := by decide +kernel
theorem dX5_init_48 : decode cX5_init 48 = .ok (.aload_n 0, 1) := by decide +kernel
theorem dX5_init_49 : decode cX5_init 49 = .ok (.iconst 4, 1) := by decide +kernel
theorem dX5_init_50 : decode cX5_init 50 = .ok (.newarray .int, 2) := by decide +kernel
theorem dX5_init_52 : decode cX5_init 52 = .ok (.putfield 33, 3) := by decide +kernel
theorem dX5_init_55 : decode cX5_init 55 = .ok (.return_, 1) := by decide +kernel
theorem dX5_wall_0 : decode cX5_wall 0 = .ok (.iload_n 1, 1) := by decide +kernel
theorem dX5_wall_1 : decode cX5_wall 1 = .ok (.invokestatic 37, 3) := by decide +kernel
theorem dX5_wall_4 : decode cX5_wall 4 = .ok (.ifCond .ne 15, 3) := by decide +kernel
theorem dX5_wall_7 : decode cX5_wall 7 = .ok (.iload_n 2, 1) := by decide +kernel
theorem dX5_wall_8 : decode cX5_wall 8 = .ok (.iconst (-1), 1) := by decide +kernel
theorem dX5_wall_9 : decode cX5_wall 9 = .ok (.if_icmp .eq 18, 3) := by decide +kernel
theorem dX5_wall_12 : decode cX5_wall 12 = .ok (.iload_n 2, 1) := by decide +kernel
theorem dX5_wall_13 : decode cX5_wall 13 = .ok (.invokestatic 41, 3) := by decide +kernel
theorem dX5_wall_16 : decode cX5_wall 16 = .ok (.ifCond .eq 11, 3) := by decide +kernel
theorem dX5_wall_19 : decode cX5_wall 19 = .ok (.new 44, 3) := by decide +kernel
theorem dX5_wall_22 : decode cX5_wall 22 = .ok (.dup, 1) := by decide +kernel
theorem dX5_wall_23 : decode cX5_wall 23 = .ok (.invokespecial 46, 3) := by decide +kernel
theorem dX5_wall_26 : decode cX5_wall 26 = .ok (.athrow, 1) := by decide +kernel
theorem dX5_wall_27 : decode cX5_wall 27 = .ok (.aload_n 0, 1) := by decide +kernel
theorem dX5_wall_28 : decode cX5_wall 28 = .ok (.iload_n 1, 1) := by decide +kernel
theorem dX5_wall_29 : decode cX5_wall 29 = .ok (.invokevirtual 47, 3) := by decide +kernel
theorem dX5_wall_32 : decode cX5_wall 32 = .ok (.ifCond .eq 21, 3) := by decide +kernel
theorem dX5_wall_35 : decode cX5_wall 35 = .ok (.iload_n 2, 1) := by decide +kernel
theorem dX5_wall_36 : decode cX5_wall 36 = .ok (.iconst (-1), 1) := by decide +kernel
theorem dX5_wall_37 : decode cX5_wall 37 = .ok (.if_icmp .eq 24, 3) := by decide +kernel
theorem dX5_wall_40 : decode cX5_wall 40 = .ok (.aload_n 0, 1) := by decide +kernel
theorem dX5_wall_41 : decode cX5_wall 41 = .ok (.getfield 10, 3) := by decide +kernel
theorem dX5_wall_44 : decode cX5_wall 44 = .ok (.iload_n 2, 1) := by decide +kernel
theorem dX5_wall_45 : decode cX5_wall 45 = .ok (.invokevirtual 50, 3) := by decide +kernel
theorem dX5_wall_48 : decode cX5_wall 48 = .ok (.bipush 12, 2) := by decide +kernel
theorem dX5_wall_50 : decode cX5_wall 50 = .ok (.if_icmp .lt 11, 3) := by decide +kernel
theorem dX5_wall_53 : decode cX5_wall 53 = .ok (.new 54, 3) := by decide +kernel
theorem dX5_wall_56 : decode cX5_wall 56 = .ok (.dup, 1) := by decide +kernel
theorem dX5_wall_57 : decode cX5_wall 57 = .ok (.invokespecial 56, 3) := by decide +kernel
theorem dX5_wall_60 : decode cX5_wall 60 = .ok (.athrow, 1) := by decide +kernel
theorem dX5_wall_61 : decode cX5_wall 61 = .ok (.aload_n 0, 1) := by decide +kernel
theorem dX5_wall_62 : decode cX5_wall 62 = .ok (.getfield 10, 3) := by decide +kernel
theorem dX5_wall_65 : decode cX5_wall 65 = .ok (.getfield 57, 3) := by decide +kernel
theorem dX5_wall_68 : decode cX5_wall 68 = .ok (.iload_n 1, 1) := by decide +kernel
theorem dX5_wall_69 : decode cX5_wall 69 = .ok (.iconst 1, 1) := by decide +kernel
theorem dX5_wall_70 : decode cX5_wall 70 = .ok (.iastore, 1) := by decide +kernel
theorem dX5_wall_71 : decode cX5_wall 71 = .ok (.aload_n 0, 1) := by decide +kernel
theorem dX5_wall_72 : decode cX5_wall 72 = .ok (.getfield 10, 3) := by decide +kernel
theorem dX5_wall_75 : decode cX5_wall 75 = .ok (.getfield 60, 3) := by decide +kernel
theorem dX5_wall_78 : decode cX5_wall 78 = .ok (.iload_n 1, 1) := by decide +kernel
theorem dX5_wall_79 : decode cX5_wall 79 = .ok (.iload_n 2, 1) := by decide +kernel
theorem dX5_wall_80 : decode cX5_wall 80 = .ok (.iastore, 1) := by decide +kernel
theorem dX5_wall_81 : decode cX5_wall 81 = .ok (.aload_n 0, 1) := by decide +kernel
theorem dX5_wall_82 : decode cX5_wall 82 = .ok (.iconst 0, 1) := by decide +kernel
theorem dX5_wall_83 : decode cX5_wall 83 = .ok (.putfield 63, 3) := by decide +kernel
theorem dX5_wall_86 : decode cX5_wall 86 = .ok (.return_, 1) := by decide +kernel
theorem dX5_clear_0 : decode cX5_clear 0 = .ok (.iload_n 1, 1) := by decide +kernel
theorem dX5_clear_1 : decode cX5_clear 1 = .ok (.invokestatic 37, 3) := by decide +kernel
theorem dX5_clear_4 : decode cX5_clear 4 = .ok (.ifCond .eq 11, 3) := by decide +kernel
theorem dX5_clear_7 : decode cX5_clear 7 = .ok (.new 44, 3) := by decide +kernel
theorem dX5_clear_10 : decode cX5_clear 10 = .ok (.dup, 1) := by decide +kernel
theorem dX5_clear_11 : decode cX5_clear 11 = .ok (.invokespecial 46, 3) := by decide +kernel
theorem dX5_clear_14 : decode cX5_clear 14 = .ok (.athrow, 1) := by decide +kernel
theorem dX5_clear_15 : decode cX5_clear 15 = .ok (.aload_n 0, 1) := by decide +kernel
theorem dX5_clear_16 : decode cX5_clear 16 = .ok (.getfield 10, 3) := by decide +kernel
theorem dX5_clear_19 : decode cX5_clear 19 = .ok (.getfield 57, 3) := by decide +kernel
theorem dX5_clear_22 : decode cX5_clear 22 = .ok (.iload_n 1, 1) := by decide +kernel
theorem dX5_clear_23 : decode cX5_clear 23 = .ok (.iaload, 1) := by decide +kernel
theorem dX5_clear_24 : decode cX5_clear 24 = .ok (.istore_n 2, 1) := by decide +kernel
theorem dX5_clear_25 : decode cX5_clear 25 = .ok (.aload_n 0, 1) := by decide +kernel
theorem dX5_clear_26 : decode cX5_clear 26 = .ok (.getfield 10, 3) := by decide +kernel
theorem dX5_clear_29 : decode cX5_clear 29 = .ok (.iload_n 1, 1) := by decide +kernel
theorem dX5_clear_30 : decode cX5_clear 30 = .ok (.invokevirtual 67, 3) := by decide +kernel
theorem dX5_clear_33 : decode cX5_clear 33 = .ok (.aload_n 0, 1) := by decide +kernel
theorem dX5_clear_34 : decode cX5_clear 34 = .ok (.iconst 0, 1) := by decide +kernel
theorem dX5_clear_35 : decode cX5_clear 35 = .ok (.putfield 63, 3) := by decide +kernel
theorem dX5_clear_38 : decode cX5_clear 38 = .ok (.iload_n 2, 1) := by decide +kernel
theorem dX5_clear_39 : decode cX5_clear 39 = .ok (.ireturn, 1) := by decide +kernel
theorem dX5_open_0 : decode cX5_open 0 = .ok (.iload_n 1, 1) := by decide +kernel
theorem dX5_open_1 : decode cX5_open 1 = .ok (.invokestatic 37, 3) := by decide +kernel
theorem dX5_open_4 : decode cX5_open 4 = .ok (.ifCond .eq 11, 3) := by decide +kernel
theorem dX5_open_7 : decode cX5_open 7 = .ok (.new 44, 3) := by decide +kernel
theorem dX5_open_10 : decode cX5_open 10 = .ok (.dup, 1) := by decide +kernel
theorem dX5_open_11 : decode cX5_open 11 = .ok (.invokespecial 46, 3) := by decide +kernel
theorem dX5_open_14 : decode cX5_open 14 = .ok (.athrow, 1) := by decide +kernel
theorem dX5_open_15 : decode cX5_open 15 = .ok (.iload_n 2, 1) := by decide +kernel
theorem dX5_open_16 : decode cX5_open 16 = .ok (.iconst 2, 1) := by decide +kernel
theorem dX5_open_17 : decode cX5_open 17 = .ok (.if_icmp .eq 16, 3) := by decide +kernel
theorem dX5_open_20 : decode cX5_open 20 = .ok (.iload_n 2, 1) := by decide +kernel
theorem dX5_open_21 : decode cX5_open 21 = .ok (.iconst 3, 1) := by decide +kernel
theorem dX5_open_22 : decode cX5_open 22 = .ok (.if_icmp .eq 11, 3) := by decide +kernel
theorem dX5_open_25 : decode cX5_open 25 = .ok (.new 71, 3) := by decide +kernel
theorem dX5_open_28 : decode cX5_open 28 = .ok (.dup, 1) := by decide +kernel
theorem dX5_open_29 : decode cX5_open 29 = .ok (.invokespecial 73, 3) := by decide +kernel
theorem dX5_open_32 : decode cX5_open 32 = .ok (.athrow, 1) := by decide +kernel
theorem dX5_open_33 : decode cX5_open 33 = .ok (.aload_n 0, 1) := by decide +kernel
theorem dX5_open_34 : decode cX5_open 34 = .ok (.getfield 10, 3) := by decide +kernel
theorem dX5_open_37 : decode cX5_open 37 = .ok (.getfield 57, 3) := by decide +kernel
theorem dX5_open_40 : decode cX5_open 40 = .ok (.iload_n 1, 1) := by decide +kernel
theorem dX5_open_41 : decode cX5_open 41 = .ok (.iaload, 1) := by decide +kernel
theorem dX5_open_42 : decode cX5_open 42 = .ok (.ifCond .eq 11, 3) := by decide +kernel
theorem dX5_open_45 : decode cX5_open 45 = .ok (.new 54, 3) := by decide +kernel
theorem dX5_open_48 : decode cX5_open 48 = .ok (.dup, 1) := by decide +kernel
theorem dX5_open_49 : decode cX5_open 49 = .ok (.invokespecial 56, 3) := by decide +kernel
theorem dX5_open_52 : decode cX5_open 52 = .ok (.athrow, 1) := by decide +kernel
theorem dX5_open_53 : decode cX5_open 53 = .ok (.aload_n 0, 1) := by decide +kernel
theorem dX5_open_54 : decode cX5_open 54 = .ok (.getfield 10, 3) := by decide +kernel
theorem dX5_open_57 : decode cX5_open 57 = .ok (.getfield 57, 3) := by decide +kernel
theorem dX5_open_60 : decode cX5_open 60 = .ok (.iload_n 1, 1) := by decide +kernel
theorem dX5_open_61 : decode cX5_open 61 = .ok (.iload_n 2, 1) := by decide +kernel
theorem dX5_open_62 : decode cX5_open 62 = .ok (.iastore, 1) := by decide +kernel
theorem dX5_open_63 : decode cX5_open 63 = .ok (.aload_n 0, 1) := by decide +kernel
theorem dX5_open_64 : decode cX5_open 64 = .ok (.iconst 0, 1) := by decide +kernel
theorem dX5_open_65 : decode cX5_open 65 = .ok (.putfield 63, 3) := by decide +kernel
theorem dX5_open_68 : decode cX5_open 68 = .ok (.return_, 1) := by decide +kernel
theorem dX5_particle_0 : decode cX5_particle 0 = .ok (.iload_n 1, 1) := by decide +kernel
theorem dX5_particle_1 : decode cX5_particle 1 = .ok (.invokestatic 37, 3) := by decide +kernel
theorem dX5_particle_4 : decode cX5_particle 4 = .ok (.ifCond .eq 11, 3) := by decide +kernel
theorem dX5_particle_7 : decode cX5_particle 7 = .ok (.new 44, 3) := by decide +kernel
theorem dX5_particle_10 : decode cX5_particle 10 = .ok (.dup, 1) := by decide +kernel
theorem dX5_particle_11 : decode cX5_particle 11 = .ok (.invokespecial 46, 3) := by decide +kernel
theorem dX5_particle_14 : decode cX5_particle 14 = .ok (.athrow, 1) := by decide +kernel
theorem dX5_particle_15 : decode cX5_particle 15 = .ok (.iload_n 2, 1) := by decide +kernel
theorem dX5_particle_16 : decode cX5_particle 16 = .ok (.iconst 0, 1) := by decide +kernel
theorem dX5_particle_17 : decode cX5_particle 17 = .ok (.iconst 3, 1) := by decide +kernel
theorem dX5_particle_18 : decode cX5_particle 18 = .ok (.invokestatic 74, 3) := by decide +kernel
theorem dX5_particle_21 : decode cX5_particle 21 = .ok (.ifCond .eq 11, 3) := by decide +kernel
theorem dX5_particle_24 : decode cX5_particle 24 = .ok (.new 71, 3) := by decide +kernel
theorem dX5_particle_27 : decode cX5_particle 27 = .ok (.dup, 1) := by decide +kernel
theorem dX5_particle_28 : decode cX5_particle 28 = .ok (.invokespecial 73, 3) := by decide +kernel
theorem dX5_particle_31 : decode cX5_particle 31 = .ok (.athrow, 1) := by decide +kernel
theorem dX5_particle_32 : decode cX5_particle 32 = .ok (.aload_n 0, 1) := by decide +kernel
theorem dX5_particle_33 : decode cX5_particle 33 = .ok (.getfield 10, 3) := by decide +kernel
theorem dX5_particle_36 : decode cX5_particle 36 = .ok (.getfield 57, 3) := by decide +kernel
theorem dX5_particle_39 : decode cX5_particle 39 = .ok (.iload_n 1, 1) := by decide +kernel
theorem dX5_particle_40 : decode cX5_particle 40 = .ok (.iaload, 1) := by decide +kernel
theorem dX5_particle_41 : decode cX5_particle 41 = .ok (.iconst 1, 1) := by decide +kernel
theorem dX5_particle_42 : decode cX5_particle 42 = .ok (.if_icmp .eq 19, 3) := by decide +kernel
theorem dX5_particle_45 : decode cX5_particle 45 = .ok (.aload_n 0, 1) := by decide +kernel
theorem dX5_particle_46 : decode cX5_particle 46 = .ok (.getfield 10, 3) := by decide +kernel
theorem dX5_particle_49 : decode cX5_particle 49 = .ok (.getfield 78, 3) := by decide +kernel
theorem dX5_particle_52 : decode cX5_particle 52 = .ok (.iload_n 1, 1) := by decide +kernel
theorem dX5_particle_53 : decode cX5_particle 53 = .ok (.iaload, 1) := by decide +kernel
theorem dX5_particle_54 : decode cX5_particle 54 = .ok (.iload_n 2, 1) := by decide +kernel
theorem dX5_particle_55 : decode cX5_particle 55 = .ok (.invokestatic 81, 3) := by decide +kernel
theorem dX5_particle_58 : decode cX5_particle 58 = .ok (.ifCond .eq 11, 3) := by decide +kernel
theorem dX5_particle_61 : decode cX5_particle 61 = .ok (.new 54, 3) := by decide +kernel
theorem dX5_particle_64 : decode cX5_particle 64 = .ok (.dup, 1) := by decide +kernel
theorem dX5_particle_65 : decode cX5_particle 65 = .ok (.invokespecial 56, 3) := by decide +kernel
theorem dX5_particle_68 : decode cX5_particle 68 = .ok (.athrow, 1) := by decide +kernel
theorem dX5_particle_69 : decode cX5_particle 69 = .ok (.aload_n 0, 1) := by decide +kernel
theorem dX5_particle_70 : decode cX5_particle 70 = .ok (.getfield 10, 3) := by decide +kernel
theorem dX5_particle_73 : decode cX5_particle 73 = .ok (.iload_n 1, 1) := by decide +kernel
theorem dX5_particle_74 : decode cX5_particle 74 = .ok (.iload_n 2, 1) := by decide +kernel
theorem dX5_particle_75 : decode cX5_particle 75 = .ok (.invokevirtual 85, 3) := by decide +kernel
theorem dX5_particle_78 : decode cX5_particle 78 = .ok (.aload_n 0, 1) := by decide +kernel
theorem dX5_particle_79 : decode cX5_particle 79 = .ok (.iconst 0, 1) := by decide +kernel
theorem dX5_particle_80 : decode cX5_particle 80 = .ok (.putfield 63, 3) := by decide +kernel
theorem dX5_particle_83 : decode cX5_particle 83 = .ok (.aload_n 0, 1) := by decide +kernel
theorem dX5_particle_84 : decode cX5_particle 84 = .ok (.getfield 10, 3) := by decide +kernel
theorem dX5_particle_87 : decode cX5_particle 87 = .ok (.getfield 78, 3) := by decide +kernel
theorem dX5_particle_90 : decode cX5_particle 90 = .ok (.iload_n 1, 1) := by decide +kernel
theorem dX5_particle_91 : decode cX5_particle 91 = .ok (.iaload, 1) := by decide +kernel
theorem dX5_particle_92 : decode cX5_particle 92 = .ok (.ireturn, 1) := by decide +kernel
theorem dX5_ink_0 : decode cX5_ink 0 = .ok (.iload_n 1, 1) := by decide +kernel
theorem dX5_ink_1 : decode cX5_ink 1 = .ok (.invokestatic 37, 3) := by decide +kernel
theorem dX5_ink_4 : decode cX5_ink 4 = .ok (.ifCond .eq 11, 3) := by decide +kernel
theorem dX5_ink_7 : decode cX5_ink 7 = .ok (.new 44, 3) := by decide +kernel
theorem dX5_ink_10 : decode cX5_ink 10 = .ok (.dup, 1) := by decide +kernel
theorem dX5_ink_11 : decode cX5_ink 11 = .ok (.invokespecial 46, 3) := by decide +kernel
theorem dX5_ink_14 : decode cX5_ink 14 = .ok (.athrow, 1) := by decide +kernel
theorem dX5_ink_15 : decode cX5_ink 15 = .ok (.aload_n 0, 1) := by decide +kernel
theorem dX5_ink_16 : decode cX5_ink 16 = .ok (.getfield 10, 3) := by decide +kernel
theorem dX5_ink_19 : decode cX5_ink 19 = .ok (.getfield 78, 3) := by decide +kernel
theorem dX5_ink_22 : decode cX5_ink 22 = .ok (.iload_n 1, 1) := by decide +kernel
theorem dX5_ink_23 : decode cX5_ink 23 = .ok (.iaload, 1) := by decide +kernel
theorem dX5_ink_24 : decode cX5_ink 24 = .ok (.aload_n 0, 1) := by decide +kernel
theorem dX5_ink_25 : decode cX5_ink 25 = .ok (.getfield 10, 3) := by decide +kernel
theorem dX5_ink_28 : decode cX5_ink 28 = .ok (.getfield 89, 3) := by decide +kernel
theorem dX5_ink_31 : decode cX5_ink 31 = .ok (.iload_n 1, 1) := by decide +kernel
theorem dX5_ink_32 : decode cX5_ink 32 = .ok (.iaload, 1) := by decide +kernel
theorem dX5_ink_33 : decode cX5_ink 33 = .ok (.iconst (-1), 1) := by decide +kernel
theorem dX5_ink_34 : decode cX5_ink 34 = .ok (.ixor, 1) := by decide +kernel
theorem dX5_ink_35 : decode cX5_ink 35 = .ok (.iand, 1) := by decide +kernel
theorem dX5_ink_36 : decode cX5_ink 36 = .ok (.istore_n 2, 1) := by decide +kernel
theorem dX5_ink_37 : decode cX5_ink 37 = .ok (.aload_n 0, 1) := by decide +kernel
theorem dX5_ink_38 : decode cX5_ink 38 = .ok (.getfield 10, 3) := by decide +kernel
theorem dX5_ink_41 : decode cX5_ink 41 = .ok (.getfield 89, 3) := by decide +kernel
theorem dX5_ink_44 : decode cX5_ink 44 = .ok (.iload_n 1, 1) := by decide +kernel
theorem dX5_ink_45 : decode cX5_ink 45 = .ok (.aload_n 0, 1) := by decide +kernel
theorem dX5_ink_46 : decode cX5_ink 46 = .ok (.getfield 10, 3) := by decide +kernel
theorem dX5_ink_49 : decode cX5_ink 49 = .ok (.getfield 78, 3) := by decide +kernel
theorem dX5_ink_52 : decode cX5_ink 52 = .ok (.iload_n 1, 1) := by decide +kernel
theorem dX5_ink_53 : decode cX5_ink 53 = .ok (.iaload, 1) := by decide +kernel
theorem dX5_ink_54 : decode cX5_ink 54 = .ok (.iastore, 1) := by decide +kernel
theorem dX5_ink_55 : decode cX5_ink 55 = .ok (.aload_n 0, 1) := by decide +kernel
theorem dX5_ink_56 : decode cX5_ink 56 = .ok (.iconst 0, 1) := by decide +kernel
theorem dX5_ink_57 : decode cX5_ink 57 = .ok (.putfield 63, 3) := by decide +kernel
theorem dX5_ink_60 : decode cX5_ink 60 = .ok (.iload_n 2, 1) := by decide +kernel
theorem dX5_ink_61 : decode cX5_ink 61 = .ok (.invokestatic 92, 3) := by decide +kernel
theorem dX5_ink_64 : decode cX5_ink 64 = .ok (.ireturn, 1) := by decide +kernel
theorem dX5_probe_0 : decode cX5_probe 0 = .ok (.iload_n 1, 1) := by decide +kernel
theorem dX5_probe_1 : decode cX5_probe 1 = .ok (.invokestatic 37, 3) := by decide +kernel
theorem dX5_probe_4 : decode cX5_probe 4 = .ok (.ifCond .eq 11, 3) := by decide +kernel
theorem dX5_probe_7 : decode cX5_probe 7 = .ok (.new 44, 3) := by decide +kernel
theorem dX5_probe_10 : decode cX5_probe 10 = .ok (.dup, 1) := by decide +kernel
theorem dX5_probe_11 : decode cX5_probe 11 = .ok (.invokespecial 46, 3) := by decide +kernel
theorem dX5_probe_14 : decode cX5_probe 14 = .ok (.athrow, 1) := by decide +kernel
theorem dX5_probe_15 : decode cX5_probe 15 = .ok (.aload_n 0, 1) := by decide +kernel
theorem dX5_probe_16 : decode cX5_probe 16 = .ok (.getfield 10, 3) := by decide +kernel
theorem dX5_probe_19 : decode cX5_probe 19 = .ok (.getfield 57, 3) := by decide +kernel
theorem dX5_probe_22 : decode cX5_probe 22 = .ok (.iload_n 1, 1) := by decide +kernel
theorem dX5_probe_23 : decode cX5_probe 23 = .ok (.iaload, 1) := by decide +kernel
theorem dX5_probe_24 : decode cX5_probe 24 = .ok (.iconst 1, 1) := by decide +kernel
theorem dX5_probe_25 : decode cX5_probe 25 = .ok (.if_icmp .eq 14, 3) := by decide +kernel
theorem dX5_probe_28 : decode cX5_probe 28 = .ok (.aload_n 0, 1) := by decide +kernel
theorem dX5_probe_29 : decode cX5_probe 29 = .ok (.getfield 29, 3) := by decide +kernel
theorem dX5_probe_32 : decode cX5_probe 32 = .ok (.getfield 97, 3) := by decide +kernel
theorem dX5_probe_35 : decode cX5_probe 35 = .ok (.iconst 4, 1) := by decide +kernel
theorem dX5_probe_36 : decode cX5_probe 36 = .ok (.if_icmp .lt 11, 3) := by decide +kernel
theorem dX5_probe_39 : decode cX5_probe 39 = .ok (.new 54, 3) := by decide +kernel
theorem dX5_probe_42 : decode cX5_probe 42 = .ok (.dup, 1) := by decide +kernel
theorem dX5_probe_43 : decode cX5_probe 43 = .ok (.invokespecial 56, 3) := by decide +kernel
theorem dX5_probe_46 : decode cX5_probe 46 = .ok (.athrow, 1) := by decide +kernel
theorem dX5_probe_47 : decode cX5_probe 47 = .ok (.aload_n 0, 1) := by decide +kernel
theorem dX5_probe_48 : decode cX5_probe 48 = .ok (.iconst 0, 1) := by decide +kernel
theorem dX5_probe_49 : decode cX5_probe 49 = .ok (.putfield 63, 3) := by decide +kernel
theorem dX5_probe_52 : decode cX5_probe 52 = .ok (.aload_n 0, 1) := by decide +kernel
theorem dX5_probe_53 : decode cX5_probe 53 = .ok (.getfield 29, 3) := by decide +kernel
theorem dX5_probe_56 : decode cX5_probe 56 = .ok (.iload_n 1, 1) := by decide +kernel
theorem dX5_probe_57 : decode cX5_probe 57 = .ok (.invokevirtual 100, 3) := by decide +kernel
theorem dX5_probe_60 : decode cX5_probe 60 = .ok (.ireturn, 1) := by decide +kernel
theorem dX5_fault_0 : decode cX5_fault 0 = .ok (.iload_n 1, 1) := by decide +kernel
theorem dX5_fault_1 : decode cX5_fault 1 = .ok (.invokestatic 41, 3) := by decide +kernel
theorem dX5_fault_4 : decode cX5_fault 4 = .ok (.ifCond .eq 11, 3) := by decide +kernel
theorem dX5_fault_7 : decode cX5_fault 7 = .ok (.new 44, 3) := by decide +kernel
theorem dX5_fault_10 : decode cX5_fault 10 = .ok (.dup, 1) := by decide +kernel
theorem dX5_fault_11 : decode cX5_fault 11 = .ok (.invokespecial 46, 3) := by decide +kernel
theorem dX5_fault_14 : decode cX5_fault 14 = .ok (.athrow, 1) := by decide +kernel
theorem dX5_fault_15 : decode cX5_fault 15 = .ok (.iload_n 2, 1) := by decide +kernel
theorem dX5_fault_16 : decode cX5_fault 16 = .ok (.bipush (-5), 2) := by decide +kernel
theorem dX5_fault_18 : decode cX5_fault 18 = .ok (.iconst 5, 1) := by decide +kernel
theorem dX5_fault_19 : decode cX5_fault 19 = .ok (.invokestatic 74, 3) := by decide +kernel
theorem dX5_fault_22 : decode cX5_fault 22 = .ok (.ifCond .eq 11, 3) := by decide +kernel
theorem dX5_fault_25 : decode cX5_fault 25 = .ok (.new 71, 3) := by decide +kernel
theorem dX5_fault_28 : decode cX5_fault 28 = .ok (.dup, 1) := by decide +kernel
theorem dX5_fault_29 : decode cX5_fault 29 = .ok (.invokespecial 73, 3) := by decide +kernel
theorem dX5_fault_32 : decode cX5_fault 32 = .ok (.athrow, 1) := by decide +kernel
theorem dX5_fault_33 : decode cX5_fault 33 = .ok (.aload_n 0, 1) := by decide +kernel
theorem dX5_fault_34 : decode cX5_fault 34 = .ok (.getfield 33, 3) := by decide +kernel
theorem dX5_fault_37 : decode cX5_fault 37 = .ok (.iload_n 1, 1) := by decide +kernel
theorem dX5_fault_38 : decode cX5_fault 38 = .ok (.iaload, 1) := by decide +kernel
theorem dX5_fault_39 : decode cX5_fault 39 = .ok (.istore_n 3, 1) := by decide +kernel
theorem dX5_fault_40 : decode cX5_fault 40 = .ok (.aload_n 0, 1) := by decide +kernel
theorem dX5_fault_41 : decode cX5_fault 41 = .ok (.getfield 33, 3) := by decide +kernel
theorem dX5_fault_44 : decode cX5_fault 44 = .ok (.iload_n 1, 1) := by decide +kernel
theorem dX5_fault_45 : decode cX5_fault 45 = .ok (.iload_n 2, 1) := by decide +kernel
theorem dX5_fault_46 : decode cX5_fault 46 = .ok (.iastore, 1) := by decide +kernel
theorem dX5_fault_47 : decode cX5_fault 47 = .ok (.iload_n 3, 1) := by decide +kernel
theorem dX5_fault_48 : decode cX5_fault 48 = .ok (.ireturn, 1) := by decide +kernel
theorem dX5_bring_0 : decode cX5_bring 0 = .ok (.iload_n 1, 1) := by decide +kernel
theorem dX5_bring_1 : decode cX5_bring 1 = .ok (.invokestatic 37, 3) := by decide +kernel
theorem dX5_bring_4 : decode cX5_bring 4 = .ok (.ifCond .eq 11, 3) := by decide +kernel
theorem dX5_bring_7 : decode cX5_bring 7 = .ok (.new 44, 3) := by decide +kernel
theorem dX5_bring_10 : decode cX5_bring 10 = .ok (.dup, 1) := by decide +kernel
theorem dX5_bring_11 : decode cX5_bring 11 = .ok (.invokespecial 46, 3) := by decide +kernel
theorem dX5_bring_14 : decode cX5_bring 14 = .ok (.athrow, 1) := by decide +kernel
theorem dX5_bring_15 : decode cX5_bring 15 = .ok (.iload_n 2, 1) := by decide +kernel
theorem dX5_bring_16 : decode cX5_bring 16 = .ok (.iconst 0, 1) := by decide +kernel
theorem dX5_bring_17 : decode cX5_bring 17 = .ok (.iconst 3, 1) := by decide +kernel
theorem dX5_bring_18 : decode cX5_bring 18 = .ok (.invokestatic 74, 3) := by decide +kernel
theorem dX5_bring_21 : decode cX5_bring 21 = .ok (.ifCond .ne 13, 3) := by decide +kernel
theorem dX5_bring_24 : decode cX5_bring 24 = .ok (.iload_n 3, 1) := by decide +kernel
theorem dX5_bring_25 : decode cX5_bring 25 = .ok (.iconst 1, 1) := by decide +kernel
theorem dX5_bring_26 : decode cX5_bring 26 = .ok (.ldc 103, 2) := by decide +kernel
theorem dX5_bring_28 : decode cX5_bring 28 = .ok (.invokestatic 74, 3) := by decide +kernel
theorem dX5_bring_31 : decode cX5_bring 31 = .ok (.ifCond .eq 11, 3) := by decide +kernel
theorem dX5_bring_34 : decode cX5_bring 34 = .ok (.new 71, 3) := by decide +kernel
theorem dX5_bring_37 : decode cX5_bring 37 = .ok (.dup, 1) := by decide +kernel
theorem dX5_bring_38 : decode cX5_bring 38 = .ok (.invokespecial 73, 3) := by decide +kernel
theorem dX5_bring_41 : decode cX5_bring 41 = .ok (.athrow, 1) := by decide +kernel
theorem dX5_bring_42 : decode cX5_bring 42 = .ok (.aload_n 0, 1) := by decide +kernel
theorem dX5_bring_43 : decode cX5_bring 43 = .ok (.getfield 10, 3) := by decide +kernel
theorem dX5_bring_46 : decode cX5_bring 46 = .ok (.getfield 57, 3) := by decide +kernel
theorem dX5_bring_49 : decode cX5_bring 49 = .ok (.iload_n 1, 1) := by decide +kernel
theorem dX5_bring_50 : decode cX5_bring 50 = .ok (.iaload, 1) := by decide +kernel
theorem dX5_bring_51 : decode cX5_bring 51 = .ok (.iconst 1, 1) := by decide +kernel
theorem dX5_bring_52 : decode cX5_bring 52 = .ok (.if_icmp .eq 17, 3) := by decide +kernel
theorem dX5_bring_55 : decode cX5_bring 55 = .ok (.aload_n 0, 1) := by decide +kernel
theorem dX5_bring_56 : decode cX5_bring 56 = .ok (.getfield 22, 3) := by decide +kernel
theorem dX5_bring_59 : decode cX5_bring 59 = .ok (.getfield 104, 3) := by decide +kernel
theorem dX5_bring_62 : decode cX5_bring 62 = .ok (.iload_n 3, 1) := by decide +kernel
theorem dX5_bring_63 : decode cX5_bring 63 = .ok (.iadd, 1) := by decide +kernel
theorem dX5_bring_64 : decode cX5_bring 64 = .ok (.ldc 107, 2) := by decide +kernel
theorem dX5_bring_66 : decode cX5_bring 66 = .ok (.if_icmp .le 11, 3) := by decide +kernel
theorem dX5_bring_69 : decode cX5_bring 69 = .ok (.new 54, 3) := by decide +kernel
theorem dX5_bring_72 : decode cX5_bring 72 = .ok (.dup, 1) := by decide +kernel
theorem dX5_bring_73 : decode cX5_bring 73 = .ok (.invokespecial 56, 3) := by decide +kernel
theorem dX5_bring_76 : decode cX5_bring 76 = .ok (.athrow, 1) := by decide +kernel
theorem dX5_bring_77 : decode cX5_bring 77 = .ok (.aload_n 0, 1) := by decide +kernel
theorem dX5_bring_78 : decode cX5_bring 78 = .ok (.getfield 22, 3) := by decide +kernel
theorem dX5_bring_81 : decode cX5_bring 81 = .ok (.dup, 1) := by decide +kernel
theorem dX5_bring_82 : decode cX5_bring 82 = .ok (.getfield 104, 3) := by decide +kernel
theorem dX5_bring_85 : decode cX5_bring 85 = .ok (.iload_n 3, 1) := by decide +kernel
theorem dX5_bring_86 : decode cX5_bring 86 = .ok (.iadd, 1) := by decide +kernel
theorem dX5_bring_87 : decode cX5_bring 87 = .ok (.putfield 104, 3) := by decide +kernel
theorem dX5_bring_90 : decode cX5_bring 90 = .ok (.aload_n 0, 1) := by decide +kernel
theorem dX5_bring_91 : decode cX5_bring 91 = .ok (.getfield 22, 3) := by decide +kernel
theorem dX5_bring_94 : decode cX5_bring 94 = .ok (.getfield 108, 3) := by decide +kernel
theorem dX5_bring_97 : decode cX5_bring 97 = .ok (.iload_n 2, 1) := by decide +kernel
theorem dX5_bring_98 : decode cX5_bring 98 = .ok (.aaload, 1) := by decide +kernel
theorem dX5_bring_99 : decode cX5_bring 99 = .ok (.iload_n 1, 1) := by decide +kernel
theorem dX5_bring_100 : decode cX5_bring 100 = .ok (.dup2, 1) := by decide +kernel
theorem dX5_bring_101 : decode cX5_bring 101 = .ok (.iaload, 1) := by decide +kernel
theorem dX5_bring_102 : decode cX5_bring 102 = .ok (.iload_n 3, 1) := by decide +kernel
theorem dX5_bring_103 : decode cX5_bring 103 = .ok (.iadd, 1) := by decide +kernel
theorem dX5_bring_104 : decode cX5_bring 104 = .ok (.iastore, 1) := by decide +kernel
theorem dX5_bring_105 : decode cX5_bring 105 = .ok (.aload_n 0, 1) := by decide +kernel
theorem dX5_bring_106 : decode cX5_bring 106 = .ok (.getfield 22, 3) := by decide +kernel
theorem dX5_bring_109 : decode cX5_bring 109 = .ok (.getfield 108, 3) := by decide +kernel
theorem dX5_bring_112 : decode cX5_bring 112 = .ok (.iload_n 2, 1) := by decide +kernel
theorem dX5_bring_113 : decode cX5_bring 113 = .ok (.aaload, 1) := by decide +kernel
theorem dX5_bring_114 : decode cX5_bring 114 = .ok (.iload_n 1, 1) := by decide +kernel
theorem dX5_bring_115 : decode cX5_bring 115 = .ok (.iaload, 1) := by decide +kernel
theorem dX5_bring_116 : decode cX5_bring 116 = .ok (.ireturn, 1) := by decide +kernel
theorem dX5_step_0 : decode cX5_step 0 = .ok (.iload_n 1, 1) := by decide +kernel
theorem dX5_step_1 : decode cX5_step 1 = .ok (.iconst 1, 1) := by decide +kernel
theorem dX5_step_2 : decode cX5_step 2 = .ok (.sipush 200, 3) := by decide +kernel
theorem dX5_step_5 : decode cX5_step 5 = .ok (.invokestatic 74, 3) := by decide +kernel
theorem dX5_step_8 : decode cX5_step 8 = .ok (.ifCond .eq 11, 3) := by decide +kernel
theorem dX5_step_11 : decode cX5_step 11 = .ok (.new 71, 3) := by decide +kernel
theorem dX5_step_14 : decode cX5_step 14 = .ok (.dup, 1) := by decide +kernel
theorem dX5_step_15 : decode cX5_step 15 = .ok (.invokespecial 73, 3) := by decide +kernel
theorem dX5_step_18 : decode cX5_step 18 = .ok (.athrow, 1) := by decide +kernel
theorem dX5_step_19 : decode cX5_step 19 = .ok (.aload_n 0, 1) := by decide +kernel
theorem dX5_step_20 : decode cX5_step 20 = .ok (.getfield 112, 3) := by decide +kernel
theorem dX5_step_23 : decode cX5_step 23 = .ok (.iload_n 1, 1) := by decide +kernel
theorem dX5_step_24 : decode cX5_step 24 = .ok (.iadd, 1) := by decide +kernel
theorem dX5_step_25 : decode cX5_step 25 = .ok (.sipush 5000, 3) := by decide +kernel
theorem dX5_step_28 : decode cX5_step 28 = .ok (.if_icmp .le 11, 3) := by decide +kernel
theorem dX5_step_31 : decode cX5_step 31 = .ok (.new 54, 3) := by decide +kernel
theorem dX5_step_34 : decode cX5_step 34 = .ok (.dup, 1) := by decide +kernel
theorem dX5_step_35 : decode cX5_step 35 = .ok (.invokespecial 56, 3) := by decide +kernel
theorem dX5_step_38 : decode cX5_step 38 = .ok (.athrow, 1) := by decide +kernel
theorem dX5_step_39 : decode cX5_step 39 = .ok (.aload_n 0, 1) := by decide +kernel
theorem dX5_step_40 : decode cX5_step 40 = .ok (.getfield 10, 3) := by decide +kernel
theorem dX5_step_43 : decode cX5_step 43 = .ok (.invokevirtual 115, 3) := by decide +kernel
theorem dX5_step_46 : decode cX5_step 46 = .ok (.istore_n 2, 1) := by decide +kernel
theorem dX5_step_47 : decode cX5_step 47 = .ok (.iconst 0, 1) := by decide +kernel
theorem dX5_step_48 : decode cX5_step 48 = .ok (.istore_n 3, 1) := by decide +kernel
theorem dX5_step_49 : decode cX5_step 49 = .ok (.iload_n 3, 1) := by decide +kernel
theorem dX5_step_50 : decode cX5_step 50 = .ok (.iload_n 1, 1) := by decide +kernel
theorem dX5_step_51 : decode cX5_step 51 = .ok (.if_icmp .ge 55, 3) := by decide +kernel
theorem dX5_step_54 : decode cX5_step 54 = .ok (.aload_n 0, 1) := by decide +kernel
theorem dX5_step_55 : decode cX5_step 55 = .ok (.getfield 10, 3) := by decide +kernel
theorem dX5_step_58 : decode cX5_step 58 = .ok (.invokevirtual 119, 3) := by decide +kernel
theorem dX5_step_61 : decode cX5_step 61 = .ok (.aload_n 0, 1) := by decide +kernel
theorem dX5_step_62 : decode cX5_step 62 = .ok (.getfield 29, 3) := by decide +kernel
theorem dX5_step_65 : decode cX5_step 65 = .ok (.aload_n 0, 1) := by decide +kernel
theorem dX5_step_66 : decode cX5_step 66 = .ok (.getfield 10, 3) := by decide +kernel
theorem dX5_step_69 : decode cX5_step 69 = .ok (.invokevirtual 122, 3) := by decide +kernel
theorem dX5_step_72 : decode cX5_step 72 = .ok (.aload_n 0, 1) := by decide +kernel
theorem dX5_step_73 : decode cX5_step 73 = .ok (.dup, 1) := by decide +kernel
theorem dX5_step_74 : decode cX5_step 74 = .ok (.getfield 112, 3) := by decide +kernel
theorem dX5_step_77 : decode cX5_step 77 = .ok (.iconst 1, 1) := by decide +kernel
theorem dX5_step_78 : decode cX5_step 78 = .ok (.iadd, 1) := by decide +kernel
theorem dX5_step_79 : decode cX5_step 79 = .ok (.putfield 112, 3) := by decide +kernel
theorem dX5_step_82 : decode cX5_step 82 = .ok (.aload_n 0, 1) := by decide +kernel
theorem dX5_step_83 : decode cX5_step 83 = .ok (.iload_n 2, 1) := by decide +kernel
theorem dX5_step_84 : decode cX5_step 84 = .ok (.ifCond .eq 12, 3) := by decide +kernel
theorem dX5_step_87 : decode cX5_step 87 = .ok (.aload_n 0, 1) := by decide +kernel
theorem dX5_step_88 : decode cX5_step 88 = .ok (.getfield 63, 3) := by decide +kernel
theorem dX5_step_91 : decode cX5_step 91 = .ok (.iconst 1, 1) := by decide +kernel
theorem dX5_step_92 : decode cX5_step 92 = .ok (.iadd, 1) := by decide +kernel
theorem dX5_step_93 : decode cX5_step 93 = .ok (.goto 4, 3) := by decide +kernel
theorem dX5_step_96 : decode cX5_step 96 = .ok (.iconst 0, 1) := by decide +kernel
theorem dX5_step_97 : decode cX5_step 97 = .ok (.putfield 63, 3) := by decide +kernel
theorem dX5_step_100 : decode cX5_step 100 = .ok (.iinc 3 1, 3) := by decide +kernel
theorem dX5_step_103 : decode cX5_step 103 = .ok (.goto (-54), 3) := by decide +kernel
theorem dX5_step_106 : decode cX5_step 106 = .ok (.aload_n 0, 1) := by decide +kernel
theorem dX5_step_107 : decode cX5_step 107 = .ok (.getfield 112, 3) := by decide +kernel
theorem dX5_step_110 : decode cX5_step 110 = .ok (.ireturn, 1) := by decide +kernel
theorem dX5_back_0 : decode cX5_back 0 = .ok (.iload_n 1, 1) := by decide +kernel
theorem dX5_back_1 : decode cX5_back 1 = .ok (.iconst 1, 1) := by decide +kernel
theorem dX5_back_2 : decode cX5_back 2 = .ok (.sipush 200, 3) := by decide +kernel
theorem dX5_back_5 : decode cX5_back 5 = .ok (.invokestatic 74, 3) := by decide +kernel
theorem dX5_back_8 : decode cX5_back 8 = .ok (.ifCond .eq 11, 3) := by decide +kernel
theorem dX5_back_11 : decode cX5_back 11 = .ok (.new 71, 3) := by decide +kernel
theorem dX5_back_14 : decode cX5_back 14 = .ok (.dup, 1) := by decide +kernel
theorem dX5_back_15 : decode cX5_back 15 = .ok (.invokespecial 73, 3) := by decide +kernel
theorem dX5_back_18 : decode cX5_back 18 = .ok (.athrow, 1) := by decide +kernel
theorem dX5_back_19 : decode cX5_back 19 = .ok (.aload_n 0, 1) := by decide +kernel
theorem dX5_back_20 : decode cX5_back 20 = .ok (.getfield 63, 3) := by decide +kernel
theorem dX5_back_23 : decode cX5_back 23 = .ok (.iload_n 1, 1) := by decide +kernel
theorem dX5_back_24 : decode cX5_back 24 = .ok (.if_icmp .ge 11, 3) := by decide +kernel
theorem dX5_back_27 : decode cX5_back 27 = .ok (.new 54, 3) := by decide +kernel
theorem dX5_back_30 : decode cX5_back 30 = .ok (.dup, 1) := by decide +kernel
theorem dX5_back_31 : decode cX5_back 31 = .ok (.invokespecial 56, 3) := by decide +kernel
theorem dX5_back_34 : decode cX5_back 34 = .ok (.athrow, 1) := by decide +kernel
theorem dX5_back_35 : decode cX5_back 35 = .ok (.iconst 0, 1) := by decide +kernel
theorem dX5_back_36 : decode cX5_back 36 = .ok (.istore_n 2, 1) := by decide +kernel
theorem dX5_back_37 : decode cX5_back 37 = .ok (.iload_n 2, 1) := by decide +kernel
theorem dX5_back_38 : decode cX5_back 38 = .ok (.iload_n 1, 1) := by decide +kernel
theorem dX5_back_39 : decode cX5_back 39 = .ok (.if_icmp .ge 43, 3) := by decide +kernel
theorem dX5_back_42 : decode cX5_back 42 = .ok (.aload_n 0, 1) := by decide +kernel
theorem dX5_back_43 : decode cX5_back 43 = .ok (.getfield 10, 3) := by decide +kernel
theorem dX5_back_46 : decode cX5_back 46 = .ok (.invokevirtual 126, 3) := by decide +kernel
theorem dX5_back_49 : decode cX5_back 49 = .ok (.aload_n 0, 1) := by decide +kernel
theorem dX5_back_50 : decode cX5_back 50 = .ok (.getfield 29, 3) := by decide +kernel
theorem dX5_back_53 : decode cX5_back 53 = .ok (.invokevirtual 129, 3) := by decide +kernel
theorem dX5_back_56 : decode cX5_back 56 = .ok (.aload_n 0, 1) := by decide +kernel
theorem dX5_back_57 : decode cX5_back 57 = .ok (.dup, 1) := by decide +kernel
theorem dX5_back_58 : decode cX5_back 58 = .ok (.getfield 112, 3) := by decide +kernel
theorem dX5_back_61 : decode cX5_back 61 = .ok (.iconst 1, 1) := by decide +kernel
theorem dX5_back_62 : decode cX5_back 62 = .ok (.isub, 1) := by decide +kernel
theorem dX5_back_63 : decode cX5_back 63 = .ok (.putfield 112, 3) := by decide +kernel
theorem dX5_back_66 : decode cX5_back 66 = .ok (.aload_n 0, 1) := by decide +kernel
theorem dX5_back_67 : decode cX5_back 67 = .ok (.dup, 1) := by decide +kernel
theorem dX5_back_68 : decode cX5_back 68 = .ok (.getfield 63, 3) := by decide +kernel
theorem dX5_back_71 : decode cX5_back 71 = .ok (.iconst 1, 1) := by decide +kernel
theorem dX5_back_72 : decode cX5_back 72 = .ok (.isub, 1) := by decide +kernel
theorem dX5_back_73 : decode cX5_back 73 = .ok (.putfield 63, 3) := by decide +kernel
theorem dX5_back_76 : decode cX5_back 76 = .ok (.iinc 2 1, 3) := by decide +kernel
theorem dX5_back_79 : decode cX5_back 79 = .ok (.goto (-42), 3) := by decide +kernel
theorem dX5_back_82 : decode cX5_back 82 = .ok (.aload_n 0, 1) := by decide +kernel
theorem dX5_back_83 : decode cX5_back 83 = .ok (.getfield 112, 3) := by decide +kernel
theorem dX5_back_86 : decode cX5_back 86 = .ok (.ireturn, 1) := by decide +kernel
theorem dX5_flow_0 : decode cX5_flow 0 = .ok (.iload_n 1, 1) := by decide +kernel
theorem dX5_flow_1 : decode cX5_flow 1 = .ok (.iconst 1, 1) := by decide +kernel
theorem dX5_flow_2 : decode cX5_flow 2 = .ok (.bipush 100, 2) := by decide +kernel
theorem dX5_flow_4 : decode cX5_flow 4 = .ok (.invokestatic 74, 3) := by decide +kernel
theorem dX5_flow_7 : decode cX5_flow 7 = .ok (.ifCond .eq 11, 3) := by decide +kernel
theorem dX5_flow_10 : decode cX5_flow 10 = .ok (.new 71, 3) := by decide +kernel
theorem dX5_flow_13 : decode cX5_flow 13 = .ok (.dup, 1) := by decide +kernel
theorem dX5_flow_14 : decode cX5_flow 14 = .ok (.invokespecial 73, 3) := by decide +kernel
theorem dX5_flow_17 : decode cX5_flow 17 = .ok (.athrow, 1) := by decide +kernel
theorem dX5_flow_18 : decode cX5_flow 18 = .ok (.iconst 0, 1) := by decide +kernel
theorem dX5_flow_19 : decode cX5_flow 19 = .ok (.istore_n 2, 1) := by decide +kernel
theorem dX5_flow_20 : decode cX5_flow 20 = .ok (.iload_n 2, 1) := by decide +kernel
theorem dX5_flow_21 : decode cX5_flow 21 = .ok (.iload_n 1, 1) := by decide +kernel
theorem dX5_flow_22 : decode cX5_flow 22 = .ok (.if_icmp .ge 20, 3) := by decide +kernel
theorem dX5_flow_25 : decode cX5_flow 25 = .ok (.aload_n 0, 1) := by decide +kernel
theorem dX5_flow_26 : decode cX5_flow 26 = .ok (.getfield 22, 3) := by decide +kernel
theorem dX5_flow_29 : decode cX5_flow 29 = .ok (.aload_n 0, 1) := by decide +kernel
theorem dX5_flow_30 : decode cX5_flow 30 = .ok (.getfield 10, 3) := by decide +kernel
theorem dX5_flow_33 : decode cX5_flow 33 = .ok (.invokevirtual 132, 3) := by decide +kernel
theorem dX5_flow_36 : decode cX5_flow 36 = .ok (.iinc 2 1, 3) := by decide +kernel
theorem dX5_flow_39 : decode cX5_flow 39 = .ok (.goto (-19), 3) := by decide +kernel
theorem dX5_flow_42 : decode cX5_flow 42 = .ok (.aload_n 0, 1) := by decide +kernel
theorem dX5_flow_43 : decode cX5_flow 43 = .ok (.getfield 22, 3) := by decide +kernel
theorem dX5_flow_46 : decode cX5_flow 46 = .ok (.getfield 135, 3) := by decide +kernel
theorem dX5_flow_49 : decode cX5_flow 49 = .ok (.lreturn, 1) := by decide +kernel
theorem dX5_cellOf_0 : decode cX5_cellOf 0 = .ok (.iload_n 1, 1) := by decide +kernel
theorem dX5_cellOf_1 : decode cX5_cellOf 1 = .ok (.invokestatic 37, 3) := by decide +kernel
theorem dX5_cellOf_4 : decode cX5_cellOf 4 = .ok (.ifCond .eq 11, 3) := by decide +kernel
theorem dX5_cellOf_7 : decode cX5_cellOf 7 = .ok (.new 44, 3) := by decide +kernel
theorem dX5_cellOf_10 : decode cX5_cellOf 10 = .ok (.dup, 1) := by decide +kernel
theorem dX5_cellOf_11 : decode cX5_cellOf 11 = .ok (.invokespecial 46, 3) := by decide +kernel
theorem dX5_cellOf_14 : decode cX5_cellOf 14 = .ok (.athrow, 1) := by decide +kernel
theorem dX5_cellOf_15 : decode cX5_cellOf 15 = .ok (.iload_n 2, 1) := by decide +kernel
theorem dX5_cellOf_16 : decode cX5_cellOf 16 = .ok (.tableswitch 102 0 7 #[48, 58, 68, 78, 88, 88, 88, 88], 48) := by decide +kernel
theorem dX5_cellOf_64 : decode cX5_cellOf 64 = .ok (.aload_n 0, 1) := by decide +kernel
theorem dX5_cellOf_65 : decode cX5_cellOf 65 = .ok (.getfield 10, 3) := by decide +kernel
theorem dX5_cellOf_68 : decode cX5_cellOf 68 = .ok (.getfield 57, 3) := by decide +kernel
theorem dX5_cellOf_71 : decode cX5_cellOf 71 = .ok (.iload_n 1, 1) := by decide +kernel
theorem dX5_cellOf_72 : decode cX5_cellOf 72 = .ok (.iaload, 1) := by decide +kernel
theorem dX5_cellOf_73 : decode cX5_cellOf 73 = .ok (.ireturn, 1) := by decide +kernel
theorem dX5_cellOf_74 : decode cX5_cellOf 74 = .ok (.aload_n 0, 1) := by decide +kernel
theorem dX5_cellOf_75 : decode cX5_cellOf 75 = .ok (.getfield 10, 3) := by decide +kernel
theorem dX5_cellOf_78 : decode cX5_cellOf 78 = .ok (.getfield 60, 3) := by decide +kernel
theorem dX5_cellOf_81 : decode cX5_cellOf 81 = .ok (.iload_n 1, 1) := by decide +kernel
theorem dX5_cellOf_82 : decode cX5_cellOf 82 = .ok (.iaload, 1) := by decide +kernel
theorem dX5_cellOf_83 : decode cX5_cellOf 83 = .ok (.ireturn, 1) := by decide +kernel
theorem dX5_cellOf_84 : decode cX5_cellOf 84 = .ok (.aload_n 0, 1) := by decide +kernel
theorem dX5_cellOf_85 : decode cX5_cellOf 85 = .ok (.getfield 10, 3) := by decide +kernel
theorem dX5_cellOf_88 : decode cX5_cellOf 88 = .ok (.getfield 78, 3) := by decide +kernel
theorem dX5_cellOf_91 : decode cX5_cellOf 91 = .ok (.iload_n 1, 1) := by decide +kernel
theorem dX5_cellOf_92 : decode cX5_cellOf 92 = .ok (.iaload, 1) := by decide +kernel
theorem dX5_cellOf_93 : decode cX5_cellOf 93 = .ok (.ireturn, 1) := by decide +kernel
theorem dX5_cellOf_94 : decode cX5_cellOf 94 = .ok (.aload_n 0, 1) := by decide +kernel
theorem dX5_cellOf_95 : decode cX5_cellOf 95 = .ok (.getfield 10, 3) := by decide +kernel
theorem dX5_cellOf_98 : decode cX5_cellOf 98 = .ok (.getfield 89, 3) := by decide +kernel
theorem dX5_cellOf_101 : decode cX5_cellOf 101 = .ok (.iload_n 1, 1) := by decide +kernel
theorem dX5_cellOf_102 : decode cX5_cellOf 102 = .ok (.iaload, 1) := by decide +kernel
theorem dX5_cellOf_103 : decode cX5_cellOf 103 = .ok (.ireturn, 1) := by decide +kernel
theorem dX5_cellOf_104 : decode cX5_cellOf 104 = .ok (.aload_n 0, 1) := by decide +kernel
theorem dX5_cellOf_105 : decode cX5_cellOf 105 = .ok (.getfield 22, 3) := by decide +kernel
theorem dX5_cellOf_108 : decode cX5_cellOf 108 = .ok (.getfield 108, 3) := by decide +kernel
theorem dX5_cellOf_111 : decode cX5_cellOf 111 = .ok (.iload_n 2, 1) := by decide +kernel
theorem dX5_cellOf_112 : decode cX5_cellOf 112 = .ok (.iconst 4, 1) := by decide +kernel
theorem dX5_cellOf_113 : decode cX5_cellOf 113 = .ok (.isub, 1) := by decide +kernel
theorem dX5_cellOf_114 : decode cX5_cellOf 114 = .ok (.aaload, 1) := by decide +kernel
theorem dX5_cellOf_115 : decode cX5_cellOf 115 = .ok (.iload_n 1, 1) := by decide +kernel
theorem dX5_cellOf_116 : decode cX5_cellOf 116 = .ok (.iaload, 1) := by decide +kernel
theorem dX5_cellOf_117 : decode cX5_cellOf 117 = .ok (.ireturn, 1) := by decide +kernel
theorem dX5_cellOf_118 : decode cX5_cellOf 118 = .ok (.new 71, 3) := by decide +kernel
theorem dX5_cellOf_121 : decode cX5_cellOf 121 = .ok (.dup, 1) := by decide +kernel
theorem dX5_cellOf_122 : decode cX5_cellOf 122 = .ok (.invokespecial 73, 3) := by decide +kernel
theorem dX5_cellOf_125 : decode cX5_cellOf 125 = .ok (.athrow, 1) := by decide +kernel
