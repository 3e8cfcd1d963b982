theorem dX10_moveSession_5 : decode cX10_moveSession 5 = .ok (.ifCond .ne 16, 3) := by decide +kernel
theorem dX10_moveSession_8 : decode cX10_moveSession 8 = .ok (.aload_n 0, 1) := by decide +kernel
theorem dX10_moveSession_9 : decode cX10_moveSession 9 = .ok (.aload_n 0, 1) := by decide +kernel
theorem dX10_moveSession_10 : decode cX10_moveSession 10 = .ok (.iload_n 2, 1) := by decide +kernel
theorem dX10_moveSession_11 : decode cX10_moveSession 11 = .ok (.invokevirtual 58, 3) := by decide +kernel
theorem dX10_moveSession_14 : decode cX10_moveSession 14 = .ok (.iconst 2, 1) := by decide +kernel
theorem dX10_moveSession_15 : decode cX10_moveSession 15 = .ok (.invokevirtual 51, 3) := by decide +kernel
theorem dX10_moveSession_18 : decode cX10_moveSession 18 = .ok (.ifCond .eq 5, 3) := by decide +kernel
theorem dX10_moveSession_21 : decode cX10_moveSession 21 = .ok (.iconst 0, 1) := by decide +kernel
theorem dX10_moveSession_22 : decode cX10_moveSession 22 = .ok (.ireturn, 1) := by decide +kernel
theorem dX10_moveSession_23 : decode cX10_moveSession 23 = .ok (.aload_n 0, 1) := by decide +kernel
theorem dX10_moveSession_24 : decode cX10_moveSession 24 = .ok (.invokevirtual 55, 3) := by decide +kernel
theorem dX10_moveSession_27 : decode cX10_moveSession 27 = .ok (.aload_n 0, 1) := by decide +kernel
theorem dX10_moveSession_28 : decode cX10_moveSession 28 = .ok (.getfield 9, 3) := by decide +kernel
theorem dX10_moveSession_31 : decode cX10_moveSession 31 = .ok (.aload_n 0, 1) := by decide +kernel
theorem dX10_moveSession_32 : decode cX10_moveSession 32 = .ok (.aload_n 0, 1) := by decide +kernel
theorem dX10_moveSession_33 : decode cX10_moveSession 33 = .ok (.iload_n 1, 1) := by decide +kernel
theorem dX10_moveSession_34 : decode cX10_moveSession 34 = .ok (.invokevirtual 84, 3) := by decide +kernel
theorem dX10_moveSession_37 : decode cX10_moveSession 37 = .ok (.invokevirtual 75, 3) := by decide +kernel
theorem dX10_moveSession_40 : decode cX10_moveSession 40 = .ok (.iconst 1, 1) := by decide +kernel
theorem dX10_moveSession_41 : decode cX10_moveSession 41 = .ok (.iadd, 1) := by decide +kernel
theorem dX10_moveSession_42 : decode cX10_moveSession 42 = .ok (.iaload, 1) := by decide +kernel
theorem dX10_moveSession_43 : decode cX10_moveSession 43 = .ok (.istore_n 3, 1) := by decide +kernel
theorem dX10_moveSession_44 : decode cX10_moveSession 44 = .ok (.aload_n 0, 1) := by decide +kernel
theorem dX10_moveSession_45 : decode cX10_moveSession 45 = .ok (.getfield 9, 3) := by decide +kernel
theorem dX10_moveSession_48 : decode cX10_moveSession 48 = .ok (.aload_n 0, 1) := by decide +kernel
theorem dX10_moveSession_49 : decode cX10_moveSession 49 = .ok (.aload_n 0, 1) := by decide +kernel
theorem dX10_moveSession_50 : decode cX10_moveSession 50 = .ok (.iload_n 1, 1) := by decide +kernel
theorem dX10_moveSession_51 : decode cX10_moveSession 51 = .ok (.invokevirtual 84, 3) := by decide +kernel
theorem dX10_moveSession_54 : decode cX10_moveSession 54 = .ok (.invokevirtual 75, 3) := by decide +kernel
theorem dX10_moveSession_57 : decode cX10_moveSession 57 = .ok (.iconst 1, 1) := by decide +kernel
theorem dX10_moveSession_58 : decode cX10_moveSession 58 = .ok (.iadd, 1) := by decide +kernel
theorem dX10_moveSession_59 : decode cX10_moveSession 59 = .ok (.iload_n 2, 1) := by decide +kernel
theorem dX10_moveSession_60 : decode cX10_moveSession 60 = .ok (.iastore, 1) := by decide +kernel
theorem dX10_moveSession_61 : decode cX10_moveSession 61 = .ok (.iload_n 3, 1) := by decide +kernel
theorem dX10_moveSession_62 : decode cX10_moveSession 62 = .ok (.ireturn, 1) := by decide +kernel
theorem dX10_removeSession_0 : decode cX10_removeSession 0 = .ok (.aload_n 0, 1) := by decide +kernel
theorem dX10_removeSession_1 : decode cX10_removeSession 1 = .ok (.iload_n 1, 1) := by decide +kernel
theorem dX10_removeSession_2 : decode cX10_removeSession 2 = .ok (.invokevirtual 90, 3) := by decide +kernel
theorem dX10_removeSession_5 : decode cX10_removeSession 5 = .ok (.ifCond .eq 5, 3) := by decide +kernel
theorem dX10_removeSession_8 : decode cX10_removeSession 8 = .ok (.iconst 0, 1) := by decide +kernel
theorem dX10_removeSession_9 : decode cX10_removeSession 9 = .ok (.ireturn, 1) := by decide +kernel
theorem dX10_removeSession_10 : decode cX10_removeSession 10 = .ok (.aload_n 0, 1) := by decide +kernel
theorem dX10_removeSession_11 : decode cX10_removeSession 11 = .ok (.invokevirtual 55, 3) := by decide +kernel
theorem dX10_removeSession_14 : decode cX10_removeSession 14 = .ok (.aload_n 0, 1) := by decide +kernel
theorem dX10_removeSession_15 : decode cX10_removeSession 15 = .ok (.aload_n 0, 1) := by decide +kernel
theorem dX10_removeSession_16 : decode cX10_removeSession 16 = .ok (.iload_n 1, 1) := by decide +kernel
theorem dX10_removeSession_17 : decode cX10_removeSession 17 = .ok (.invokevirtual 84, 3) := by decide +kernel
theorem dX10_removeSession_20 : decode cX10_removeSession 20 = .ok (.invokevirtual 75, 3) := by decide +kernel
theorem dX10_removeSession_23 : decode cX10_removeSession 23 = .ok (.istore_n 2, 1) := by decide +kernel
theorem dX10_removeSession_24 : decode cX10_removeSession 24 = .ok (.iload_n 2, 1) := by decide +kernel
theorem dX10_removeSession_25 : decode cX10_removeSession 25 = .ok (.aload_n 0, 1) := by decide +kernel
theorem dX10_removeSession_26 : decode cX10_removeSession 26 = .ok (.aload_n 0, 1) := by decide +kernel
theorem dX10_removeSession_27 : decode cX10_removeSession 27 = .ok (.getfield 9, 3) := by decide +kernel
theorem dX10_removeSession_30 : decode cX10_removeSession 30 = .ok (.iconst 2, 1) := by decide +kernel
theorem dX10_removeSession_31 : decode cX10_removeSession 31 = .ok (.iaload, 1) := by decide +kernel
theorem dX10_removeSession_32 : decode cX10_removeSession 32 = .ok (.iconst 1, 1) := by decide +kernel
theorem dX10_removeSession_33 : decode cX10_removeSession 33 = .ok (.isub, 1) := by decide +kernel
theorem dX10_removeSession_34 : decode cX10_removeSession 34 = .ok (.invokevirtual 75, 3) := by decide +kernel
theorem dX10_removeSession_37 : decode cX10_removeSession 37 = .ok (.if_icmp .ge 24, 3) := by decide +kernel
theorem dX10_removeSession_40 : decode cX10_removeSession 40 = .ok (.aload_n 0, 1) := by decide +kernel
theorem dX10_removeSession_41 : decode cX10_removeSession 41 = .ok (.getfield 9, 3) := by decide +kernel
theorem dX10_removeSession_44 : decode cX10_removeSession 44 = .ok (.iload_n 2, 1) := by decide +kernel
theorem dX10_removeSession_45 : decode cX10_removeSession 45 = .ok (.aload_n 0, 1) := by decide +kernel
theorem dX10_removeSession_46 : decode cX10_removeSession 46 = .ok (.getfield 9, 3) := by decide +kernel
theorem dX10_removeSession_49 : decode cX10_removeSession 49 = .ok (.iload_n 2, 1) := by decide +kernel
theorem dX10_removeSession_50 : decode cX10_removeSession 50 = .ok (.bipush 19, 2) := by decide +kernel
theorem dX10_removeSession_52 : decode cX10_removeSession 52 = .ok (.iadd, 1) := by decide +kernel
theorem dX10_removeSession_53 : decode cX10_removeSession 53 = .ok (.iaload, 1) := by decide +kernel
theorem dX10_removeSession_54 : decode cX10_removeSession 54 = .ok (.iastore, 1) := by decide +kernel
theorem dX10_removeSession_55 : decode cX10_removeSession 55 = .ok (.iinc 2 1, 3) := by decide +kernel
theorem dX10_removeSession_58 : decode cX10_removeSession 58 = .ok (.goto (-34), 3) := by decide +kernel
theorem dX10_removeSession_61 : decode cX10_removeSession 61 = .ok (.aload_n 0, 1) := by decide +kernel
theorem dX10_removeSession_62 : decode cX10_removeSession 62 = .ok (.getfield 9, 3) := by decide +kernel
theorem dX10_removeSession_65 : decode cX10_removeSession 65 = .ok (.iconst 2, 1) := by decide +kernel
theorem dX10_removeSession_66 : decode cX10_removeSession 66 = .ok (.dup2, 1) := by decide +kernel
theorem dX10_removeSession_67 : decode cX10_removeSession 67 = .ok (.iaload, 1) := by decide +kernel
theorem dX10_removeSession_68 : decode cX10_removeSession 68 = .ok (.iconst 1, 1) := by decide +kernel
theorem dX10_removeSession_69 : decode cX10_removeSession 69 = .ok (.isub, 1) := by decide +kernel
theorem dX10_removeSession_70 : decode cX10_removeSession 70 = .ok (.iastore, 1) := by decide +kernel
theorem dX10_removeSession_71 : decode cX10_removeSession 71 = .ok (.aload_n 0, 1) := by decide +kernel
theorem dX10_removeSession_72 : decode cX10_removeSession 72 = .ok (.getfield 9, 3) := by decide +kernel
theorem dX10_removeSession_75 : decode cX10_removeSession 75 = .ok (.iconst 2, 1) := by decide +kernel
theorem dX10_removeSession_76 : decode cX10_removeSession 76 = .ok (.iaload, 1) := by decide +kernel
theorem dX10_removeSession_77 : decode cX10_removeSession 77 = .ok (.ireturn, 1) := by decide +kernel
theorem dX10_sessionCount_0 : decode cX10_sessionCount 0 = .ok (.aload_n 0, 1) := by decide +kernel
theorem dX10_sessionCount_1 : decode cX10_sessionCount 1 = .ok (.iconst 0, 1) := by decide +kernel
theorem dX10_sessionCount_2 : decode cX10_sessionCount 2 = .ok (.putfield 31, 3) := by decide +kernel
theorem dX10_sessionCount_5 : decode cX10_sessionCount 5 = .ok (.aload_n 0, 1) := by decide +kernel
theorem dX10_sessionCount_6 : decode cX10_sessionCount 6 = .ok (.getfield 9, 3) := by decide +kernel
theorem dX10_sessionCount_9 : decode cX10_sessionCount 9 = .ok (.iconst 2, 1) := by decide +kernel
theorem dX10_sessionCount_10 : decode cX10_sessionCount 10 = .ok (.iaload, 1) := by decide +kernel
theorem dX10_sessionCount_11 : decode cX10_sessionCount 11 = .ok (.ireturn, 1) := by decide +kernel
theorem dX10_ranked_0 : decode cX10_ranked 0 = .ok (.iconst 0, 1) := by decide +kernel
theorem dX10_ranked_1 : decode cX10_ranked 1 = .ok (.istore_n 2, 1) := by decide +kernel
theorem dX10_ranked_2 : decode cX10_ranked 2 = .ok (.iload_n 2, 1) := by decide +kernel
theorem dX10_ranked_3 : decode cX10_ranked 3 = .ok (.aload_n 0, 1) := by decide +kernel
theorem dX10_ranked_4 : decode cX10_ranked 4 = .ok (.getfield 9, 3) := by decide +kernel
theorem dX10_ranked_7 : decode cX10_ranked 7 = .ok (.iconst 2, 1) := by decide +kernel
theorem dX10_ranked_8 : decode cX10_ranked 8 = .ok (.iaload, 1) := by decide +kernel
theorem dX10_ranked_9 : decode cX10_ranked 9 = .ok (.if_icmp .ge 113, 3) := by decide +kernel
theorem dX10_ranked_12 : decode cX10_ranked 12 = .ok (.iconst 0, 1) := by decide +kernel
theorem dX10_ranked_13 : decode cX10_ranked 13 = .ok (.istore_n 3, 1) := by decide +kernel
theorem dX10_ranked_14 : decode cX10_ranked 14 = .ok (.iconst 0, 1) := by decide +kernel
theorem dX10_ranked_15 : decode cX10_ranked 15 = .ok (.istore 4, 2) := by decide +kernel
theorem dX10_ranked_17 : decode cX10_ranked 17 = .ok (.iload 4, 2) := by decide +kernel
theorem dX10_ranked_19 : decode cX10_ranked 19 = .ok (.aload_n 0, 1) := by decide +kernel
theorem dX10_ranked_20 : decode cX10_ranked 20 = .ok (.getfield 9, 3) := by decide +kernel
theorem dX10_ranked_23 : decode cX10_ranked 23 = .ok (.iconst 2, 1) := by decide +kernel
theorem dX10_ranked_24 : decode cX10_ranked 24 = .ok (.iaload, 1) := by decide +kernel
theorem dX10_ranked_25 : decode cX10_ranked 25 = .ok (.if_icmp .ge 84, 3) := by decide +kernel
theorem dX10_ranked_28 : decode cX10_ranked 28 = .ok (.aload_n 0, 1) := by decide +kernel
theorem dX10_ranked_29 : decode cX10_ranked 29 = .ok (.getfield 9, 3) := by decide +kernel
theorem dX10_ranked_32 : decode cX10_ranked 32 = .ok (.aload_n 0, 1) := by decide +kernel
theorem dX10_ranked_33 : decode cX10_ranked 33 = .ok (.iload 4, 2) := by decide +kernel
theorem dX10_ranked_35 : decode cX10_ranked 35 = .ok (.invokevirtual 75, 3) := by decide +kernel
theorem dX10_ranked_38 : decode cX10_ranked 38 = .ok (.iconst 1, 1) := by decide +kernel
theorem dX10_ranked_39 : decode cX10_ranked 39 = .ok (.iadd, 1) := by decide +kernel
theorem dX10_ranked_40 : decode cX10_ranked 40 = .ok (.iaload, 1) := by decide +kernel
theorem dX10_ranked_41 : decode cX10_ranked 41 = .ok (.istore 5, 2) := by decide +kernel
theorem dX10_ranked_43 : decode cX10_ranked 43 = .ok (.aload_n 0, 1) := by decide +kernel
theorem dX10_ranked_44 : decode cX10_ranked 44 = .ok (.getfield 9, 3) := by decide +kernel
theorem dX10_ranked_47 : decode cX10_ranked 47 = .ok (.aload_n 0, 1) := by decide +kernel
theorem dX10_ranked_48 : decode cX10_ranked 48 = .ok (.iload_n 2, 1) := by decide +kernel
theorem dX10_ranked_49 : decode cX10_ranked 49 = .ok (.invokevirtual 75, 3) := by decide +kernel
theorem dX10_ranked_52 : decode cX10_ranked 52 = .ok (.iconst 1, 1) := by decide +kernel
theorem dX10_ranked_53 : decode cX10_ranked 53 = .ok (.iadd, 1) := by decide +kernel
theorem dX10_ranked_54 : decode cX10_ranked 54 = .ok (.iaload, 1) := by decide +kernel
theorem dX10_ranked_55 : decode cX10_ranked 55 = .ok (.istore 6, 2) := by decide +kernel
theorem dX10_ranked_57 : decode cX10_ranked 57 = .ok (.iload_n 3, 1) := by decide +kernel
theorem dX10_ranked_58 : decode cX10_ranked 58 = .ok (.iload 5, 2) := by decide +kernel
theorem dX10_ranked_60 : decode cX10_ranked 60 = .ok (.iload 6, 2) := by decide +kernel
theorem dX10_ranked_62 : decode cX10_ranked 62 = .ok (.if_icmp .lt 34, 3) := by decide +kernel
theorem dX10_ranked_65 : decode cX10_ranked 65 = .ok (.iload 5, 2) := by decide +kernel
theorem dX10_ranked_67 : decode cX10_ranked 67 = .ok (.iload 6, 2) := by decide +kernel
theorem dX10_ranked_69 : decode cX10_ranked 69 = .ok (.if_icmp .ne 31, 3) := by decide +kernel
theorem dX10_ranked_72 : decode cX10_ranked 72 = .ok (.aload_n 0, 1) := by decide +kernel
theorem dX10_ranked_73 : decode cX10_ranked 73 = .ok (.getfield 9, 3) := by decide +kernel
theorem dX10_ranked_76 : decode cX10_ranked 76 = .ok (.aload_n 0, 1) := by decide +kernel
theorem dX10_ranked_77 : decode cX10_ranked 77 = .ok (.iload 4, 2) := by decide +kernel
theorem dX10_ranked_79 : decode cX10_ranked 79 = .ok (.invokevirtual 75, 3) := by decide +kernel
theorem dX10_ranked_82 : decode cX10_ranked 82 = .ok (.iaload, 1) := by decide +kernel
theorem dX10_ranked_83 : decode cX10_ranked 83 = .ok (.aload_n 0, 1) := by decide +kernel
theorem dX10_ranked_84 : decode cX10_ranked 84 = .ok (.getfield 9, 3) := by decide +kernel
theorem dX10_ranked_87 : decode cX10_ranked 87 = .ok (.aload_n 0, 1) := by decide +kernel
theorem dX10_ranked_88 : decode cX10_ranked 88 = .ok (.iload_n 2, 1) := by decide +kernel
theorem dX10_ranked_89 : decode cX10_ranked 89 = .ok (.invokevirtual 75, 3) := by decide +kernel
theorem dX10_ranked_92 : decode cX10_ranked 92 = .ok (.iaload, 1) := by decide +kernel
theorem dX10_ranked_93 : decode cX10_ranked 93 = .ok (.if_icmp .ge 7, 3) := by decide +kernel
theorem dX10_ranked_96 : decode cX10_ranked 96 = .ok (.iconst 1, 1) := by decide +kernel
theorem dX10_ranked_97 : decode cX10_ranked 97 = .ok (.goto 4, 3) := by decide +kernel
theorem dX10_ranked_100 : decode cX10_ranked 100 = .ok (.iconst 0, 1) := by decide +kernel
theorem dX10_ranked_101 : decode cX10_ranked 101 = .ok (.iadd, 1) := by decide +kernel
theorem dX10_ranked_102 : decode cX10_ranked 102 = .ok (.istore_n 3, 1) := by decide +kernel
theorem dX10_ranked_103 : decode cX10_ranked 103 = .ok (.iinc 4 1, 3) := by decide +kernel
theorem dX10_ranked_106 : decode cX10_ranked 106 = .ok (.goto (-89), 3) := by decide +kernel
theorem dX10_ranked_109 : decode cX10_ranked 109 = .ok (.iload_n 3, 1) := by decide +kernel
theorem dX10_ranked_110 : decode cX10_ranked 110 = .ok (.iload_n 1, 1) := by decide +kernel
theorem dX10_ranked_111 : decode cX10_ranked 111 = .ok (.if_icmp .ne 5, 3) := by decide +kernel
theorem dX10_ranked_114 : decode cX10_ranked 114 = .ok (.iload_n 2, 1) := by decide +kernel
theorem dX10_ranked_115 : decode cX10_ranked 115 = .ok (.ireturn, 1) := by decide +kernel
theorem dX10_ranked_116 : decode cX10_ranked 116 = .ok (.iinc 2 1, 3) := by decide +kernel
theorem dX10_ranked_119 : decode cX10_ranked 119 = .ok (.goto (-117), 3) := by decide +kernel
theorem dX10_ranked_122 : decode cX10_ranked 122 = .ok (.iconst (-1), 1) := by decide +kernel
theorem dX10_ranked_123 : decode cX10_ranked 123 = .ok (.ireturn, 1) := by decide +kernel
theorem dX10_sessionAt_0 : decode cX10_sessionAt 0 = .ok (.aload_n 0, 1) := by decide +kernel
theorem dX10_sessionAt_1 : decode cX10_sessionAt 1 = .ok (.iload_n 1, 1) := by decide +kernel
theorem dX10_sessionAt_2 : decode cX10_sessionAt 2 = .ok (.iconst 0, 1) := by decide +kernel
theorem dX10_sessionAt_3 : decode cX10_sessionAt 3 = .ok (.aload_n 0, 1) := by decide +kernel
theorem dX10_sessionAt_4 : decode cX10_sessionAt 4 = .ok (.getfield 9, 3) := by decide +kernel
theorem dX10_sessionAt_7 : decode cX10_sessionAt 7 = .ok (.iconst 2, 1) := by decide +kernel
theorem dX10_sessionAt_8 : decode cX10_sessionAt 8 = .ok (.iaload, 1) := by decide +kernel
theorem dX10_sessionAt_9 : decode cX10_sessionAt 9 = .ok (.iconst 1, 1) := by decide +kernel
theorem dX10_sessionAt_10 : decode cX10_sessionAt 10 = .ok (.isub, 1) := by decide +kernel
theorem dX10_sessionAt_11 : decode cX10_sessionAt 11 = .ok (.invokestatic 47, 3) := by decide +kernel
theorem dX10_sessionAt_14 : decode cX10_sessionAt 14 = .ok (.ifCond .ne 7, 3) := by decide +kernel
theorem dX10_sessionAt_17 : decode cX10_sessionAt 17 = .ok (.iconst 1, 1) := by decide +kernel
theorem dX10_sessionAt_18 : decode cX10_sessionAt 18 = .ok (.goto 4, 3) := by decide +kernel
theorem dX10_sessionAt_21 : decode cX10_sessionAt 21 = .ok (.iconst 0, 1) := by decide +kernel
theorem dX10_sessionAt_22 : decode cX10_sessionAt 22 = .ok (.iconst 1, 1) := by decide +kernel
theorem dX10_sessionAt_23 : decode cX10_sessionAt 23 = .ok (.invokevirtual 51, 3) := by decide +kernel
theorem dX10_sessionAt_26 : decode cX10_sessionAt 26 = .ok (.ifCond .eq 7, 3) := by decide +kernel
theorem dX10_sessionAt_29 : decode cX10_sessionAt 29 = .ok (.iconst 0, 1) := by decide +kernel
theorem dX10_sessionAt_30 : decode cX10_sessionAt 30 = .ok (.goto 17, 3) := by decide +kernel
theorem dX10_sessionAt_33 : decode cX10_sessionAt 33 = .ok (.aload_n 0, 1) := by decide +kernel
theorem dX10_sessionAt_34 : decode cX10_sessionAt 34 = .ok (.getfield 9, 3) := by decide +kernel
theorem dX10_sessionAt_37 : decode cX10_sessionAt 37 = .ok (.aload_n 0, 1) := by decide +kernel
theorem dX10_sessionAt_38 : decode cX10_sessionAt 38 = .ok (.aload_n 0, 1) := by decide +kernel
theorem dX10_sessionAt_39 : decode cX10_sessionAt 39 = .ok (.iload_n 1, 1) := by decide +kernel
theorem dX10_sessionAt_40 : decode cX10_sessionAt 40 = .ok (.invokevirtual 93, 3) := by decide +kernel
theorem dX10_sessionAt_43 : decode cX10_sessionAt 43 = .ok (.invokevirtual 75, 3) := by decide +kernel
theorem dX10_sessionAt_46 : decode cX10_sessionAt 46 = .ok (.iaload, 1) := by decide +kernel
theorem dX10_sessionAt_47 : decode cX10_sessionAt 47 = .ok (.ireturn, 1) := by decide +kernel
theorem dX10_dayOf_0 : decode cX10_dayOf 0 = .ok (.aload_n 0, 1) := by decide +kernel
theorem dX10_dayOf_1 : decode cX10_dayOf 1 = .ok (.iload_n 1, 1) := by decide +kernel
theorem dX10_dayOf_2 : decode cX10_dayOf 2 = .ok (.invokevirtual 90, 3) := by decide +kernel
theorem dX10_dayOf_5 : decode cX10_dayOf 5 = .ok (.ifCond .eq 7, 3) := by decide +kernel
theorem dX10_dayOf_8 : decode cX10_dayOf 8 = .ok (.iconst 0, 1) := by decide +kernel
theorem dX10_dayOf_9 : decode cX10_dayOf 9 = .ok (.goto 19, 3) := by decide +kernel
theorem dX10_dayOf_12 : decode cX10_dayOf 12 = .ok (.aload_n 0, 1) := by decide +kernel
theorem dX10_dayOf_13 : decode cX10_dayOf 13 = .ok (.getfield 9, 3) := by decide +kernel
theorem dX10_dayOf_16 : decode cX10_dayOf 16 = .ok (.aload_n 0, 1) := by decide +kernel
theorem dX10_dayOf_17 : decode cX10_dayOf 17 = .ok (.aload_n 0, 1) := by decide +kernel
theorem dX10_dayOf_18 : decode cX10_dayOf 18 = .ok (.iload_n 1, 1) := by decide +kernel
theorem dX10_dayOf_19 : decode cX10_dayOf 19 = .ok (.invokevirtual 84, 3) := by decide +kernel
theorem dX10_dayOf_22 : decode cX10_dayOf 22 = .ok (.invokevirtual 75, 3) := by decide +kernel
theorem dX10_dayOf_25 : decode cX10_dayOf 25 = .ok (.iconst 1, 1) := by decide +kernel
theorem dX10_dayOf_26 : decode cX10_dayOf 26 = .ok (.iadd, 1) := by decide +kernel
theorem dX10_dayOf_27 : decode cX10_dayOf 27 = .ok (.iaload, 1) := by decide +kernel
theorem dX10_dayOf_28 : decode cX10_dayOf 28 = .ok (.ireturn, 1) := by decide +kernel
theorem dX10_minutesOf_0 : decode cX10_minutesOf 0 = .ok (.aload_n 0, 1) := by decide +kernel
theorem dX10_minutesOf_1 : decode cX10_minutesOf 1 = .ok (.iload_n 1, 1) := by decide +kernel
theorem dX10_minutesOf_2 : decode cX10_minutesOf 2 = .ok (.invokevirtual 90, 3) := by decide +kernel
theorem dX10_minutesOf_5 : decode cX10_minutesOf 5 = .ok (.ifCond .eq 7, 3) := by decide +kernel
theorem dX10_minutesOf_8 : decode cX10_minutesOf 8 = .ok (.iconst 0, 1) := by decide +kernel
theorem dX10_minutesOf_9 : decode cX10_minutesOf 9 = .ok (.goto 12, 3) := by decide +kernel
theorem dX10_minutesOf_12 : decode cX10_minutesOf 12 = .ok (.aload_n 0, 1) := by decide +kernel
theorem dX10_minutesOf_13 : decode cX10_minutesOf 13 = .ok (.aload_n 0, 1) := by decide +kernel
theorem dX10_minutesOf_14 : decode cX10_minutesOf 14 = .ok (.iload_n 1, 1) := by decide +kernel
theorem dX10_minutesOf_15 : decode cX10_minutesOf 15 = .ok (.invokevirtual 84, 3) := by decide +kernel
theorem dX10_minutesOf_18 : decode cX10_minutesOf 18 = .ok (.invokevirtual 87, 3) := by decide +kernel
theorem dX10_minutesOf_21 : decode cX10_minutesOf 21 = .ok (.ireturn, 1) := by decide +kernel
theorem dX10_minutesInZone_0 : decode cX10_minutesInZone 0 = .ok (.aload_n 0, 1) := by decide +kernel
theorem dX10_minutesInZone_1 : decode cX10_minutesInZone 1 = .ok (.iload_n 1, 1) := by decide +kernel
theorem dX10_minutesInZone_2 : decode cX10_minutesInZone 2 = .ok (.invokevirtual 90, 3) := by decide +kernel
theorem dX10_minutesInZone_5 : decode cX10_minutesInZone 5 = .ok (.ifCond .ne 25, 3) := by decide +kernel
theorem dX10_minutesInZone_8 : decode cX10_minutesInZone 8 = .ok (.aload_n 0, 1) := by decide +kernel
theorem dX10_minutesInZone_9 : decode cX10_minutesInZone 9 = .ok (.iload_n 2, 1) := by decide +kernel
theorem dX10_minutesInZone_10 : decode cX10_minutesInZone 10 = .ok (.iconst 1, 1) := by decide +kernel
theorem dX10_minutesInZone_11 : decode cX10_minutesInZone 11 = .ok (.iconst 5, 1) := by decide +kernel
theorem dX10_minutesInZone_12 : decode cX10_minutesInZone 12 = .ok (.invokestatic 47, 3) := by decide +kernel
theorem dX10_minutesInZone_15 : decode cX10_minutesInZone 15 = .ok (.ifCond .ne 7, 3) := by decide +kernel
theorem dX10_minutesInZone_18 : decode cX10_minutesInZone 18 = .ok (.iconst 1, 1) := by decide +kernel
theorem dX10_minutesInZone_19 : decode cX10_minutesInZone 19 = .ok (.goto 4, 3) := by decide +kernel
theorem dX10_minutesInZone_22 : decode cX10_minutesInZone 22 = .ok (.iconst 0, 1) := by decide +kernel
theorem dX10_minutesInZone_23 : decode cX10_minutesInZone 23 = .ok (.iconst 2, 1) := by decide +kernel
theorem dX10_minutesInZone_24 : decode cX10_minutesInZone 24 = .ok (.invokevirtual 51, 3) := by decide +kernel
theorem dX10_minutesInZone_27 : decode cX10_minutesInZone 27 = .ok (.ifCond .eq 5, 3) := by decide +kernel
theorem dX10_minutesInZone_30 : decode cX10_minutesInZone 30 = .ok (.iconst 0, 1) := by decide +kernel
theorem dX10_minutesInZone_31 : decode cX10_minutesInZone 31 = .ok (.ireturn, 1) := by decide +kernel
theorem dX10_minutesInZone_32 : decode cX10_minutesInZone 32 = .ok (.aload_n 0, 1) := by decide +kernel
theorem dX10_minutesInZone_33 : decode cX10_minutesInZone 33 = .ok (.invokevirtual 78, 3) := by decide +kernel
theorem dX10_minutesInZone_36 : decode cX10_minutesInZone 36 = .ok (.aload_n 0, 1) := by decide +kernel
theorem dX10_minutesInZone_37 : decode cX10_minutesInZone 37 = .ok (.aload_n 0, 1) := by decide +kernel
theorem dX10_minutesInZone_38 : decode cX10_minutesInZone 38 = .ok (.iload_n 1, 1) := by decide +kernel
theorem dX10_minutesInZone_39 : decode cX10_minutesInZone 39 = .ok (.invokevirtual 84, 3) := by decide +kernel
theorem dX10_minutesInZone_42 : decode cX10_minutesInZone 42 = .ok (.invokevirtual 81, 3) := by decide +kernel
theorem dX10_minutesInZone_45 : decode cX10_minutesInZone 45 = .ok (.aload_n 0, 1) := by decide +kernel
theorem dX10_minutesInZone_46 : decode cX10_minutesInZone 46 = .ok (.getfield 24, 3) := by decide +kernel
theorem dX10_minutesInZone_49 : decode cX10_minutesInZone 49 = .ok (.iload_n 2, 1) := by decide +kernel
theorem dX10_minutesInZone_50 : decode cX10_minutesInZone 50 = .ok (.iaload, 1) := by decide +kernel
theorem dX10_minutesInZone_51 : decode cX10_minutesInZone 51 = .ok (.ireturn, 1) := by decide +kernel
theorem dX10_loadOf_0 : decode cX10_loadOf 0 = .ok (.aload_n 0, 1) := by decide +kernel
theorem dX10_loadOf_1 : decode cX10_loadOf 1 = .ok (.iload_n 1, 1) := by decide +kernel
theorem dX10_loadOf_2 : decode cX10_loadOf 2 = .ok (.invokevirtual 90, 3) := by decide +kernel
theorem dX10_loadOf_5 : decode cX10_loadOf 5 = .ok (.ifCond .eq 7, 3) := by decide +kernel
theorem dX10_loadOf_8 : decode cX10_loadOf 8 = .ok (.iconst 0, 1) := by decide +kernel
theorem dX10_loadOf_9 : decode cX10_loadOf 9 = .ok (.goto 12, 3) := by decide +kernel
theorem dX10_loadOf_12 : decode cX10_loadOf 12 = .ok (.aload_n 0, 1) := by decide +kernel
theorem dX10_loadOf_13 : decode cX10_loadOf 13 = .ok (.aload_n 0, 1) := by decide +kernel
theorem dX10_loadOf_14 : decode cX10_loadOf 14 = .ok (.iload_n 1, 1) := by decide +kernel
theorem dX10_loadOf_15 : decode cX10_loadOf 15 = .ok (.invokevirtual 84, 3) := by decide +kernel
theorem dX10_loadOf_18 : decode cX10_loadOf 18 = .ok (.invokevirtual 66, 3) := by decide +kernel
theorem dX10_loadOf_21 : decode cX10_loadOf 21 = .ok (.ireturn, 1) := by decide +kernel
theorem dX10_loads_0 : decode cX10_loads 0 = .ok (.iconst 0, 1) := by decide +kernel
theorem dX10_loads_1 : decode cX10_loads 1 = .ok (.istore_n 1, 1) := by decide +kernel
theorem dX10_loads_2 : decode cX10_loads 2 = .ok (.iload_n 1, 1) := by decide +kernel
theorem dX10_loads_3 : decode cX10_loads 3 = .ok (.sipush 199, 3) := by decide +kernel
theorem dX10_loads_6 : decode cX10_loads 6 = .ok (.if_icmp .gt 16, 3) := by decide +kernel
theorem dX10_loads_9 : decode cX10_loads 9 = .ok (.aload_n 0, 1) := by decide +kernel
theorem dX10_loads_10 : decode cX10_loads 10 = .ok (.getfield 21, 3) := by decide +kernel
theorem dX10_loads_13 : decode cX10_loads 13 = .ok (.iload_n 1, 1) := by decide +kernel
theorem dX10_loads_14 : decode cX10_loads 14 = .ok (.iconst 0, 1) := by decide +kernel
theorem dX10_loads_15 : decode cX10_loads 15 = .ok (.iastore, 1) := by decide +kernel
theorem dX10_loads_16 : decode cX10_loads 16 = .ok (.iinc 1 1, 3) := by decide +kernel
theorem dX10_loads_19 : decode cX10_loads 19 = .ok (.goto (-17), 3) := by decide +kernel
theorem dX10_loads_22 : decode cX10_loads 22 = .ok (.iconst 0, 1) := by decide +kernel
theorem dX10_loads_23 : decode cX10_loads 23 = .ok (.istore_n 1, 1) := by decide +kernel
theorem dX10_loads_24 : decode cX10_loads 24 = .ok (.iload_n 1, 1) := by decide +kernel
theorem dX10_loads_25 : decode cX10_loads 25 = .ok (.aload_n 0, 1) := by decide +kernel
theorem dX10_loads_26 : decode cX10_loads 26 = .ok (.getfield 9, 3) := by decide +kernel
theorem dX10_loads_29 : decode cX10_loads 29 = .ok (.iconst 2, 1) := by decide +kernel
theorem dX10_loads_30 : decode cX10_loads 30 = .ok (.iaload, 1) := by decide +kernel
theorem dX10_loads_31 : decode cX10_loads 31 = .ok (.if_icmp .ge 34, 3) := by decide +kernel
theorem dX10_loads_34 : decode cX10_loads 34 = .ok (.aload_n 0, 1) := by decide +kernel
theorem dX10_loads_35 : decode cX10_loads 35 = .ok (.getfield 21, 3) := by decide +kernel
theorem dX10_loads_38 : decode cX10_loads 38 = .ok (.aload_n 0, 1) := by decide +kernel
theorem dX10_loads_39 : decode cX10_loads 39 = .ok (.getfield 9, 3) := by decide +kernel
theorem dX10_loads_42 : decode cX10_loads 42 = .ok (.aload_n 0, 1) := by decide +kernel
theorem dX10_loads_43 : decode cX10_loads 43 = .ok (.iload_n 1, 1) := by decide +kernel
theorem dX10_loads_44 : decode cX10_loads 44 = .ok (.invokevirtual 75, 3) := by decide +kernel
theorem dX10_loads_47 : decode cX10_loads 47 = .ok (.iconst 1, 1) := by decide +kernel
theorem dX10_loads_48 : decode cX10_loads 48 = .ok (.iadd, 1) := by decide +kernel
theorem dX10_loads_49 : decode cX10_loads 49 = .ok (.iaload, 1) := by decide +kernel
theorem dX10_loads_50 : decode cX10_loads 50 = .ok (.dup2, 1) := by decide +kernel
theorem dX10_loads_51 : decode cX10_loads 51 = .ok (.iaload, 1) := by decide +kernel
theorem dX10_loads_52 : decode cX10_loads 52 = .ok (.aload_n 0, 1) := by decide +kernel
theorem dX10_loads_53 : decode cX10_loads 53 = .ok (.iload_n 1, 1) := by decide +kernel
theorem dX10_loads_54 : decode cX10_loads 54 = .ok (.invokevirtual 66, 3) := by decide +kernel
theorem dX10_loads_57 : decode cX10_loads 57 = .ok (.iadd, 1) := by decide +kernel
theorem dX10_loads_58 : decode cX10_loads 58 = .ok (.iastore, 1) := by decide +kernel
theorem dX10_loads_59 : decode cX10_loads 59 = .ok (.iinc 1 1, 3) := by decide +kernel
theorem dX10_loads_62 : decode cX10_loads 62 = .ok (.goto (-38), 3) := by decide +kernel
theorem dX10_loads_65 : decode cX10_loads 65 = .ok (.return_, 1) := by decide +kernel
theorem dX10_loadOn_0 : decode cX10_loadOn 0 = .ok (.aload_n 0, 1) := by decide +kernel
theorem dX10_loadOn_1 : decode cX10_loadOn 1 = .ok (.invokevirtual 96, 3) := by decide +kernel
theorem dX10_loadOn_4 : decode cX10_loadOn 4 = .ok (.aload_n 0, 1) := by decide +kernel
theorem dX10_loadOn_5 : decode cX10_loadOn 5 = .ok (.aload_n 0, 1) := by decide +kernel
theorem dX10_loadOn_6 : decode cX10_loadOn 6 = .ok (.iload_n 1, 1) := by decide +kernel
theorem dX10_loadOn_7 : decode cX10_loadOn 7 = .ok (.invokevirtual 58, 3) := by decide +kernel
theorem dX10_loadOn_10 : decode cX10_loadOn 10 = .ok (.iconst 1, 1) := by decide +kernel
theorem dX10_loadOn_11 : decode cX10_loadOn 11 = .ok (.invokevirtual 51, 3) := by decide +kernel
theorem dX10_loadOn_14 : decode cX10_loadOn 14 = .ok (.ifCond .eq 7, 3) := by decide +kernel
theorem dX10_loadOn_17 : decode cX10_loadOn 17 = .ok (.iconst 0, 1) := by decide +kernel
theorem dX10_loadOn_18 : decode cX10_loadOn 18 = .ok (.goto 9, 3) := by decide +kernel
theorem dX10_loadOn_21 : decode cX10_loadOn 21 = .ok (.aload_n 0, 1) := by decide +kernel
theorem dX10_loadOn_22 : decode cX10_loadOn 22 = .ok (.getfield 21, 3) := by decide +kernel
theorem dX10_loadOn_25 : decode cX10_loadOn 25 = .ok (.iload_n 1, 1) := by decide +kernel
theorem dX10_loadOn_26 : decode cX10_loadOn 26 = .ok (.iaload, 1) := by decide +kernel
theorem dX10_loadOn_27 : decode cX10_loadOn 27 = .ok (.ireturn, 1) := by decide +kernel
theorem dX10_zoneShare_0 : decode cX10_zoneShare 0 = .ok (.aload_n 0, 1) := by decide +kernel
theorem dX10_zoneShare_1 : decode cX10_zoneShare 1 = .ok (.invokevirtual 78, 3) := by decide +kernel
theorem dX10_zoneShare_4 : decode cX10_zoneShare 4 = .ok (.iconst 0, 1) := by decide +kernel
theorem dX10_zoneShare_5 : decode cX10_zoneShare 5 = .ok (.istore_n 2, 1) := by decide +kernel
theorem dX10_zoneShare_6 : decode cX10_zoneShare 6 = .ok (.iconst 0, 1) := by decide +kernel
theorem dX10_zoneShare_7 : decode cX10_zoneShare 7 = .ok (.istore_n 3, 1) := by decide +kernel
theorem dX10_zoneShare_8 : decode cX10_zoneShare 8 = .ok (.iload_n 3, 1) := by decide +kernel
theorem dX10_zoneShare_9 : decode cX10_zoneShare 9 = .ok (.aload_n 0, 1) := by decide +kernel
theorem dX10_zoneShare_10 : decode cX10_zoneShare 10 = .ok (.getfield 9, 3) := by decide +kernel
theorem dX10_zoneShare_13 : decode cX10_zoneShare 13 = .ok (.iconst 2, 1) := by decide +kernel
theorem dX10_zoneShare_14 : decode cX10_zoneShare 14 = .ok (.iaload, 1) := by decide +kernel
theorem dX10_zoneShare_15 : decode cX10_zoneShare 15 = .ok (.if_icmp .ge 22, 3) := by decide +kernel
theorem dX10_zoneShare_18 : decode cX10_zoneShare 18 = .ok (.aload_n 0, 1) := by decide +kernel
theorem dX10_zoneShare_19 : decode cX10_zoneShare 19 = .ok (.iload_n 3, 1) := by decide +kernel
theorem dX10_zoneShare_20 : decode cX10_zoneShare 20 = .ok (.invokevirtual 81, 3) := by decide +kernel
theorem dX10_zoneShare_23 : decode cX10_zoneShare 23 = .ok (.iload_n 2, 1) := by decide +kernel
theorem dX10_zoneShare_24 : decode cX10_zoneShare 24 = .ok (.aload_n 0, 1) := by decide +kernel
theorem dX10_zoneShare_25 : decode cX10_zoneShare 25 = .ok (.iload_n 3, 1) := by decide +kernel
theorem dX10_zoneShare_26 : decode cX10_zoneShare 26 = .ok (.invokevirtual 87, 3) := by decide +kernel
theorem dX10_zoneShare_29 : decode cX10_zoneShare 29 = .ok (.iadd, 1) := by decide +kernel
theorem dX10_zoneShare_30 : decode cX10_zoneShare 30 = .ok (.istore_n 2, 1) := by decide +kernel
theorem dX10_zoneShare_31 : decode cX10_zoneShare 31 = .ok (.iinc 3 1, 3) := by decide +kernel
theorem dX10_zoneShare_34 : decode cX10_zoneShare 34 = .ok (.goto (-26), 3) := by decide +kernel
theorem dX10_zoneShare_37 : decode cX10_zoneShare 37 = .ok (.aload_n 0, 1) := by decide +kernel
theorem dX10_zoneShare_38 : decode cX10_zoneShare 38 = .ok (.iload_n 1, 1) := by decide +kernel
theorem dX10_zoneShare_39 : decode cX10_zoneShare 39 = .ok (.iconst 1, 1) := by decide +kernel
theorem dX10_zoneShare_40 : decode cX10_zoneShare 40 = .ok (.iconst 5, 1) := by decide +kernel
theorem dX10_zoneShare_41 : decode cX10_zoneShare 41 = .ok (.invokestatic 47, 3) := by decide +kernel
theorem dX10_zoneShare_44 : decode cX10_zoneShare 44 = .ok (.ifCond .ne 7, 3) := by decide +kernel
theorem dX10_zoneShare_47 : decode cX10_zoneShare 47 = .ok (.iconst 1, 1) := by decide +kernel
theorem dX10_zoneShare_48 : decode cX10_zoneShare 48 = .ok (.goto 4, 3) := by decide +kernel
theorem dX10_zoneShare_51 : decode cX10_zoneShare 51 = .ok (.iconst 0, 1) := by decide +kernel
theorem dX10_zoneShare_52 : decode cX10_zoneShare 52 = .ok (.iconst 1, 1) := by decide +kernel
theorem dX10_zoneShare_53 : decode cX10_zoneShare 53 = .ok (.invokevirtual 51, 3) := by decide +kernel
theorem dX10_zoneShare_56 : decode cX10_zoneShare 56 = .ok (.ifCond .ne 20, 3) := by decide +kernel
theorem dX10_zoneShare_59 : decode cX10_zoneShare 59 = .ok (.aload_n 0, 1) := by decide +kernel
theorem dX10_zoneShare_60 : decode cX10_zoneShare 60 = .ok (.iload_n 2, 1) := by decide +kernel
theorem dX10_zoneShare_61 : decode cX10_zoneShare 61 = .ok (.ifCond .ne 7, 3) := by decide +kernel
theorem dX10_zoneShare_64 : decode cX10_zoneShare 64 = .ok (.iconst 1, 1) := by decide +kernel
theorem dX10_zoneShare_65 : decode cX10_zoneShare 65 = .ok (.goto 4, 3) := by decide +kernel
theorem dX10_zoneShare_68 : decode cX10_zoneShare 68 = .ok (.iconst 0, 1) := by decide +kernel
theorem dX10_zoneShare_69 : decode cX10_zoneShare 69 = .ok (.iconst 2, 1) := by decide +kernel
theorem dX10_zoneShare_70 : decode cX10_zoneShare 70 = .ok (.invokevirtual 51, 3) := by decide +kernel
theorem dX10_zoneShare_73 : decode cX10_zoneShare 73 = .ok (.ifCond .eq 7, 3) := by decide +kernel
theorem dX10_zoneShare_76 : decode cX10_zoneShare 76 = .ok (.fconst 0, 1) := by decide +kernel
theorem dX10_zoneShare_77 : decode cX10_zoneShare 77 = .ok (.goto 13, 3) := by decide +kernel
theorem dX10_zoneShare_80 : decode cX10_zoneShare 80 = .ok (.aload_n 0, 1) := by decide +kernel
theorem dX10_zoneShare_81 : decode cX10_zoneShare 81 = .ok (.getfield 24, 3) := by decide +kernel
theorem dX10_zoneShare_84 : decode cX10_zoneShare 84 = .ok (.iload_n 1, 1) := by decide +kernel
theorem dX10_zoneShare_85 : decode cX10_zoneShare 85 = .ok (.iaload, 1) := by decide +kernel
theorem dX10_zoneShare_86 : decode cX10_zoneShare 86 = .ok (.i2f, 1) := by decide +kernel
theorem dX10_zoneShare_87 : decode cX10_zoneShare 87 = .ok (.iload_n 2, 1) := by decide +kernel
theorem dX10_zoneShare_88 : decode cX10_zoneShare 88 = .ok (.i2f, 1) := by decide +kernel
theorem dX10_zoneShare_89 : decode cX10_zoneShare 89 = .ok (.fdiv, 1) := by decide +kernel
theorem dX10_zoneShare_90 : decode cX10_zoneShare 90 = .ok (.freturn, 1) := by decide +kernel
theorem dX10_meanLoad_0 : decode cX10_meanLoad 0 = .ok (.aload_n 0, 1) := by decide +kernel
theorem dX10_meanLoad_1 : decode cX10_meanLoad 1 = .ok (.iconst 0, 1) := by decide +kernel
theorem dX10_meanLoad_2 : decode cX10_meanLoad 2 = .ok (.putfield 31, 3) := by decide +kernel
theorem dX10_meanLoad_5 : decode cX10_meanLoad 5 = .ok (.aload_n 0, 1) := by decide +kernel
theorem dX10_meanLoad_6 : decode cX10_meanLoad 6 = .ok (.invokevirtual 96, 3) := by decide +kernel
theorem dX10_meanLoad_9 : decode cX10_meanLoad 9 = .ok (.iconst 0, 1) := by decide +kernel
theorem dX10_meanLoad_10 : decode cX10_meanLoad 10 = .ok (.istore_n 1, 1) := by decide +kernel
theorem dX10_meanLoad_11 : decode cX10_meanLoad 11 = .ok (.iconst 0, 1) := by decide +kernel
theorem dX10_meanLoad_12 : decode cX10_meanLoad 12 = .ok (.istore_n 2, 1) := by decide +kernel
theorem dX10_meanLoad_13 : decode cX10_meanLoad 13 = .ok (.iload_n 2, 1) := by decide +kernel
theorem dX10_meanLoad_14 : decode cX10_meanLoad 14 = .ok (.aload_n 0, 1) := by decide +kernel
theorem dX10_meanLoad_15 : decode cX10_meanLoad 15 = .ok (.getfield 9, 3) := by decide +kernel
theorem dX10_meanLoad_18 : decode cX10_meanLoad 18 = .ok (.iconst 0, 1) := by decide +kernel
theorem dX10_meanLoad_19 : decode cX10_meanLoad 19 = .ok (.iaload, 1) := by decide +kernel
theorem dX10_meanLoad_20 : decode cX10_meanLoad 20 = .ok (.if_icmp .gt 18, 3) := by decide +kernel
theorem dX10_meanLoad_23 : decode cX10_meanLoad 23 = .ok (.iload_n 1, 1) := by decide +kernel
theorem dX10_meanLoad_24 : decode cX10_meanLoad 24 = .ok (.aload_n 0, 1) := by decide +kernel
theorem dX10_meanLoad_25 : decode cX10_meanLoad 25 = .ok (.getfield 21, 3) := by decide +kernel
theorem dX10_meanLoad_28 : decode cX10_meanLoad 28 = .ok (.iload_n 2, 1) := by decide +kernel
theorem dX10_meanLoad_29 : decode cX10_meanLoad 29 = .ok (.iaload, 1) := by decide +kernel
theorem dX10_meanLoad_30 : decode cX10_meanLoad 30 = .ok (.iadd, 1) := by decide +kernel
theorem dX10_meanLoad_31 : decode cX10_meanLoad 31 = .ok (.istore_n 1, 1) := by decide +kernel
theorem dX10_meanLoad_32 : decode cX10_meanLoad 32 = .ok (.iinc 2 1, 3) := by decide +kernel
theorem dX10_meanLoad_35 : decode cX10_meanLoad 35 = .ok (.goto (-22), 3) := by decide +kernel
theorem dX10_meanLoad_38 : decode cX10_meanLoad 38 = .ok (.iload_n 1, 1) := by decide +kernel
theorem dX10_meanLoad_39 : decode cX10_meanLoad 39 = .ok (.i2d, 1) := by decide +kernel
theorem dX10_meanLoad_40 : decode cX10_meanLoad 40 = .ok (.aload_n 0, 1) := by decide +kernel
theorem dX10_meanLoad_41 : decode cX10_meanLoad 41 = .ok (.getfield 9, 3) := by decide +kernel
theorem dX10_meanLoad_44 : decode cX10_meanLoad 44 = .ok (.iconst 0, 1) := by decide +kernel
theorem dX10_meanLoad_45 : decode cX10_meanLoad 45 = .ok (.iaload, 1) := by decide +kernel
theorem dX10_meanLoad_46 : decode cX10_meanLoad 46 = .ok (.iconst 1, 1) := by decide +kernel
theorem dX10_meanLoad_47 : decode cX10_meanLoad 47 = .ok (.iadd, 1) := by decide +kernel
theorem dX10_meanLoad_48 : decode cX10_meanLoad 48 = .ok (.i2d, 1) := by decide +kernel
theorem dX10_meanLoad_49 : decode cX10_meanLoad 49 = .ok (.ddiv, 1) := by decide +kernel
theorem dX10_meanLoad_50 : decode cX10_meanLoad 50 = .ok (.dreturn, 1) := by decide +kernel
theorem dX10_decayed_0 : decode cX10_decayed 0 = .ok (.iconst 0, 1) := by decide +kernel
theorem dX10_decayed_1 : decode cX10_decayed 1 = .ok (.istore_n 3, 1) := by decide +kernel
theorem dX10_decayed_2 : decode cX10_decayed 2 = .ok (.iconst 0, 1) := by decide +kernel
theorem dX10_decayed_3 : decode cX10_decayed 3 = .ok (.istore 4, 2) := by decide +kernel
theorem dX10_decayed_5 : decode cX10_decayed 5 = .ok (.iload 4, 2) := by decide +kernel
theorem dX10_decayed_7 : decode cX10_decayed 7 = .ok (.iload_n 1, 1) := by decide +kernel
theorem dX10_decayed_8 : decode cX10_decayed 8 = .ok (.if_icmp .gt 39, 3) := by decide +kernel
theorem dX10_decayed_11 : decode cX10_decayed 11 = .ok (.iload_n 3, 1) := by decide +kernel
theorem dX10_decayed_12 : decode cX10_decayed 12 = .ok (.sipush 1000, 3) := by decide +kernel
theorem dX10_decayed_15 : decode cX10_decayed 15 = .ok (.iload 4, 2) := by decide +kernel
theorem dX10_decayed_17 : decode cX10_decayed 17 = .ok (.sipush 199, 3) := by decide +kernel
theorem dX10_decayed_20 : decode cX10_decayed 20 = .ok (.if_icmp .gt 13, 3) := by decide +kernel
theorem dX10_decayed_23 : decode cX10_decayed 23 = .ok (.aload_n 0, 1) := by decide +kernel
theorem dX10_decayed_24 : decode cX10_decayed 24 = .ok (.getfield 21, 3) := by decide +kernel
theorem dX10_decayed_27 : decode cX10_decayed 27 = .ok (.iload 4, 2) := by decide +kernel
theorem dX10_decayed_29 : decode cX10_decayed 29 = .ok (.iaload, 1) := by decide +kernel
theorem dX10_decayed_30 : decode cX10_decayed 30 = .ok (.goto 4, 3) := by decide +kernel
theorem dX10_decayed_33 : decode cX10_decayed 33 = .ok (.iconst 0, 1) := by decide +kernel
theorem dX10_decayed_34 : decode cX10_decayed 34 = .ok (.imul, 1) := by decide +kernel
theorem dX10_decayed_35 : decode cX10_decayed 35 = .ok (.iload_n 3, 1) := by decide +kernel
theorem dX10_decayed_36 : decode cX10_decayed 36 = .ok (.isub, 1) := by decide +kernel
theorem dX10_decayed_37 : decode cX10_decayed 37 = .ok (.iload_n 2, 1) := by decide +kernel
theorem dX10_decayed_38 : decode cX10_decayed 38 = .ok (.idiv, 1) := by decide +kernel
theorem dX10_decayed_39 : decode cX10_decayed 39 = .ok (.iadd, 1) := by decide +kernel
theorem dX10_decayed_40 : decode cX10_decayed 40 = .ok (.istore_n 3, 1) := by decide +kernel
theorem dX10_decayed_41 : decode cX10_decayed 41 = .ok (.iinc 4 1, 3) := by decide +kernel
theorem dX10_decayed_44 : decode cX10_decayed 44 = .ok (.goto (-39), 3) := by decide +kernel
theorem dX10_decayed_47 : decode cX10_decayed 47 = .ok (.iload_n 3, 1) := by decide +kernel
theorem dX10_decayed_48 : decode cX10_decayed 48 = .ok (.ireturn, 1) := by decide +kernel
theorem dX10_form_0 : decode cX10_form 0 = .ok (.aload_n 0, 1) := by decide +kernel
theorem dX10_form_1 : decode cX10_form 1 = .ok (.iload_n 1, 1) := by decide +kernel
theorem dX10_form_2 : decode cX10_form 2 = .ok (.iconst 1, 1) := by decide +kernel
theorem dX10_form_3 : decode cX10_form 3 = .ok (.isub, 1) := by decide +kernel
theorem dX10_form_4 : decode cX10_form 4 = .ok (.bipush 42, 2) := by decide +kernel
theorem dX10_form_6 : decode cX10_form 6 = .ok (.invokevirtual 99, 3) := by decide +kernel
theorem dX10_form_9 : decode cX10_form 9 = .ok (.aload_n 0, 1) := by decide +kernel
theorem dX10_form_10 : decode cX10_form 10 = .ok (.iload_n 1, 1) := by decide +kernel
theorem dX10_form_11 : decode cX10_form 11 = .ok (.iconst 1, 1) := by decide +kernel
theorem dX10_form_12 : decode cX10_form 12 = .ok (.isub, 1) := by decide +kernel
theorem dX10_form_13 : decode cX10_form 13 = .ok (.bipush 7, 2) := by decide +kernel
theorem dX10_form_15 : decode cX10_form 15 = .ok (.invokevirtual 99, 3) := by decide +kernel
theorem dX10_form_18 : decode cX10_form 18 = .ok (.isub, 1) := by decide +kernel
theorem dX10_form_19 : decode cX10_form 19 = .ok (.ireturn, 1) := by decide +kernel
theorem dX10_fitnessOn_0 : decode cX10_fitnessOn 0 = .ok (.aload_n 0, 1) := by decide +kernel
theorem dX10_fitnessOn_1 : decode cX10_fitnessOn 1 = .ok (.invokevirtual 96, 3) := by decide +kernel
theorem dX10_fitnessOn_4 : decode cX10_fitnessOn 4 = .ok (.aload_n 0, 1) := by decide +kernel
theorem dX10_fitnessOn_5 : decode cX10_fitnessOn 5 = .ok (.aload_n 0, 1) := by decide +kernel
theorem dX10_fitnessOn_6 : decode cX10_fitnessOn 6 = .ok (.iload_n 1, 1) := by decide +kernel
theorem dX10_fitnessOn_7 : decode cX10_fitnessOn 7 = .ok (.invokevirtual 58, 3) := by decide +kernel
theorem dX10_fitnessOn_10 : decode cX10_fitnessOn 10 = .ok (.iconst 1, 1) := by decide +kernel
theorem dX10_fitnessOn_11 : decode cX10_fitnessOn 11 = .ok (.invokevirtual 51, 3) := by decide +kernel
theorem dX10_fitnessOn_14 : decode cX10_fitnessOn 14 = .ok (.ifCond .eq 7, 3) := by decide +kernel
theorem dX10_fitnessOn_17 : decode cX10_fitnessOn 17 = .ok (.iconst 0, 1) := by decide +kernel
theorem dX10_fitnessOn_18 : decode cX10_fitnessOn 18 = .ok (.goto 10, 3) := by decide +kernel
theorem dX10_fitnessOn_21 : decode cX10_fitnessOn 21 = .ok (.aload_n 0, 1) := by decide +kernel
theorem dX10_fitnessOn_22 : decode cX10_fitnessOn 22 = .ok (.iload_n 1, 1) := by decide +kernel
theorem dX10_fitnessOn_23 : decode cX10_fitnessOn 23 = .ok (.bipush 42, 2) := by decide +kernel
theorem dX10_fitnessOn_25 : decode cX10_fitnessOn 25 = .ok (.invokevirtual 99, 3) := by decide +kernel
theorem dX10_fitnessOn_28 : decode cX10_fitnessOn 28 = .ok (.ireturn, 1) := by decide +kernel
theorem dX10_fitnessFromStart_0 : decode cX10_fitnessFromStart 0 = .ok (.aload_n 0, 1) := by decide +kernel
theorem dX10_fitnessFromStart_1 : decode cX10_fitnessFromStart 1 = .ok (.iload_n 1, 1) := by decide +kernel
theorem dX10_fitnessFromStart_2 : decode cX10_fitnessFromStart 2 = .ok (.invokevirtual 102, 3) := by decide +kernel
theorem dX10_fitnessFromStart_5 : decode cX10_fitnessFromStart 5 = .ok (.ireturn, 1) := by decide +kernel
theorem dX10_fatigueOn_0 : decode cX10_fatigueOn 0 = .ok (.aload_n 0, 1) := by decide +kernel
theorem dX10_fatigueOn_1 : decode cX10_fatigueOn 1 = .ok (.invokevirtual 96, 3) := by decide +kernel
theorem dX10_fatigueOn_4 : decode cX10_fatigueOn 4 = .ok (.aload_n 0, 1) := by decide +kernel
theorem dX10_fatigueOn_5 : decode cX10_fatigueOn 5 = .ok (.aload_n 0, 1) := by decide +kernel
theorem dX10_fatigueOn_6 : decode cX10_fatigueOn 6 = .ok (.iload_n 1, 1) := by decide +kernel
theorem dX10_fatigueOn_7 : decode cX10_fatigueOn 7 = .ok (.invokevirtual 58, 3) := by decide +kernel
theorem dX10_fatigueOn_10 : decode cX10_fatigueOn 10 = .ok (.iconst 1, 1) := by decide +kernel
theorem dX10_fatigueOn_11 : decode cX10_fatigueOn 11 = .ok (.invokevirtual 51, 3) := by decide +kernel
theorem dX10_fatigueOn_14 : decode cX10_fatigueOn 14 = .ok (.ifCond .eq 7, 3) := by decide +kernel
theorem dX10_fatigueOn_17 : decode cX10_fatigueOn 17 = .ok (.iconst 0, 1) := by decide +kernel
theorem dX10_fatigueOn_18 : decode cX10_fatigueOn 18 = .ok (.goto 10, 3) := by decide +kernel
theorem dX10_fatigueOn_21 : decode cX10_fatigueOn 21 = .ok (.aload_n 0, 1) := by decide +kernel
theorem dX10_fatigueOn_22 : decode cX10_fatigueOn 22 = .ok (.iload_n 1, 1) := by decide +kernel
theorem dX10_fatigueOn_23 : decode cX10_fatigueOn 23 = .ok (.bipush 7, 2) := by decide +kernel
theorem dX10_fatigueOn_25 : decode cX10_fatigueOn 25 = .ok (.invokevirtual 99, 3) := by decide +kernel
theorem dX10_fatigueOn_28 : decode cX10_fatigueOn 28 = .ok (.ireturn, 1) := by decide +kernel
theorem dX10_fatigueFromStart_0 : decode cX10_fatigueFromStart 0 = .ok (.aload_n 0, 1) := by decide +kernel
theorem dX10_fatigueFromStart_1 : decode cX10_fatigueFromStart 1 = .ok (.iload_n 1, 1) := by decide +kernel
theorem dX10_fatigueFromStart_2 : decode cX10_fatigueFromStart 2 = .ok (.invokevirtual 105, 3) := by decide +kernel
theorem dX10_fatigueFromStart_5 : decode cX10_fatigueFromStart 5 = .ok (.ireturn, 1) := by decide +kernel
theorem dX10_formOn_0 : decode cX10_formOn 0 = .ok (.aload_n 0, 1) := by decide +kernel
theorem dX10_formOn_1 : decode cX10_formOn 1 = .ok (.invokevirtual 96, 3) := by decide +kernel
theorem dX10_formOn_4 : decode cX10_formOn 4 = .ok (.aload_n 0, 1) := by decide +kernel
theorem dX10_formOn_5 : decode cX10_formOn 5 = .ok (.aload_n 0, 1) := by decide +kernel
theorem dX10_formOn_6 : decode cX10_formOn 6 = .ok (.iload_n 1, 1) := by decide +kernel
theorem dX10_formOn_7 : decode cX10_formOn 7 = .ok (.invokevirtual 58, 3) := by decide +kernel
theorem dX10_formOn_10 : decode cX10_formOn 10 = .ok (.iconst 1, 1) := by decide +kernel
theorem dX10_formOn_11 : decode cX10_formOn 11 = .ok (.invokevirtual 51, 3) := by decide +kernel
theorem dX10_formOn_14 : decode cX10_formOn 14 = .ok (.ifCond .eq 7, 3) := by decide +kernel
theorem dX10_formOn_17 : decode cX10_formOn 17 = .ok (.iconst 0, 1) := by decide +kernel
theorem dX10_formOn_18 : decode cX10_formOn 18 = .ok (.goto 8, 3) := by decide +kernel
theorem dX10_formOn_21 : decode cX10_formOn 21 = .ok (.aload_n 0, 1) := by decide +kernel
theorem dX10_formOn_22 : decode cX10_formOn 22 = .ok (.iload_n 1, 1) := by decide +kernel
theorem dX10_formOn_23 : decode cX10_formOn 23 = .ok (.invokevirtual 108, 3) := by decide +kernel
theorem dX10_formOn_26 : decode cX10_formOn 26 = .ok (.ireturn, 1) := by decide +kernel
theorem dX10_bestFormDay_0 : decode cX10_bestFormDay 0 = .ok (.aload_n 0, 1) := by decide +kernel
theorem dX10_bestFormDay_1 : decode cX10_bestFormDay 1 = .ok (.iconst 0, 1) := by decide +kernel
theorem dX10_bestFormDay_2 : decode cX10_bestFormDay 2 = .ok (.putfield 31, 3) := by decide +kernel
theorem dX10_bestFormDay_5 : decode cX10_bestFormDay 5 = .ok (.aload_n 0, 1) := by decide +kernel
theorem dX10_bestFormDay_6 : decode cX10_bestFormDay 6 = .ok (.invokevirtual 96, 3) := by decide +kernel
theorem dX10_bestFormDay_9 : decode cX10_bestFormDay 9 = .ok (.iconst 0, 1) := by decide +kernel
theorem dX10_bestFormDay_10 : decode cX10_bestFormDay 10 = .ok (.istore_n 1, 1) := by decide +kernel
theorem dX10_bestFormDay_11 : decode cX10_bestFormDay 11 = .ok (.iconst 1, 1) := by decide +kernel
theorem dX10_bestFormDay_12 : decode cX10_bestFormDay 12 = .ok (.istore_n 2, 1) := by decide +kernel
theorem dX10_bestFormDay_13 : decode cX10_bestFormDay 13 = .ok (.iload_n 2, 1) := by decide +kernel
theorem dX10_bestFormDay_14 : decode cX10_bestFormDay 14 = .ok (.aload_n 0, 1) := by decide +kernel
theorem dX10_bestFormDay_15 : decode cX10_bestFormDay 15 = .ok (.getfield 9, 3) := by decide +kernel
theorem dX10_bestFormDay_18 : decode cX10_bestFormDay 18 = .ok (.iconst 0, 1) := by decide +kernel
theorem dX10_bestFormDay_19 : decode cX10_bestFormDay 19 = .ok (.iaload, 1) := by decide +kernel
theorem dX10_bestFormDay_20 : decode cX10_bestFormDay 20 = .ok (.if_icmp .gt 28, 3) := by decide +kernel
theorem dX10_bestFormDay_23 : decode cX10_bestFormDay 23 = .ok (.aload_n 0, 1) := by decide +kernel
theorem dX10_bestFormDay_24 : decode cX10_bestFormDay 24 = .ok (.iload_n 2, 1) := by decide +kernel
theorem dX10_bestFormDay_25 : decode cX10_bestFormDay 25 = .ok (.invokevirtual 108, 3) := by decide +kernel
theorem dX10_bestFormDay_28 : decode cX10_bestFormDay 28 = .ok (.aload_n 0, 1) := by decide +kernel
theorem dX10_bestFormDay_29 : decode cX10_bestFormDay 29 = .ok (.iload_n 1, 1) := by decide +kernel
theorem dX10_bestFormDay_30 : decode cX10_bestFormDay 30 = .ok (.invokevirtual 108, 3) := by decide +kernel
theorem dX10_bestFormDay_33 : decode cX10_bestFormDay 33 = .ok (.if_icmp .le 7, 3) := by decide +kernel
theorem dX10_bestFormDay_36 : decode cX10_bestFormDay 36 = .ok (.iload_n 2, 1) := by decide +kernel
theorem dX10_bestFormDay_37 : decode cX10_bestFormDay 37 = .ok (.goto 4, 3) := by decide +kernel
theorem dX10_bestFormDay_40 : decode cX10_bestFormDay 40 = .ok (.iload_n 1, 1) := by decide +kernel
theorem dX10_bestFormDay_41 : decode cX10_bestFormDay 41 = .ok (.istore_n 1, 1) := by decide +kernel
theorem dX10_bestFormDay_42 : decode cX10_bestFormDay 42 = .ok (.iinc 2 1, 3) := by decide +kernel
theorem dX10_bestFormDay_45 : decode cX10_bestFormDay 45 = .ok (.goto (-32), 3) := by decide +kernel
theorem dX10_bestFormDay_48 : decode cX10_bestFormDay 48 = .ok (.iload_n 1, 1) := by decide +kernel
theorem dX10_bestFormDay_49 : decode cX10_bestFormDay 49 = .ok (.ireturn, 1) := by decide +kernel
theorem dX10_daysToForm_0 : decode cX10_daysToForm 0 = .ok (.aload_n 0, 1) := by decide +kernel
theorem dX10_daysToForm_1 : decode cX10_daysToForm 1 = .ok (.invokevirtual 96, 3) := by decide +kernel
theorem dX10_daysToForm_4 : decode cX10_daysToForm 4 = .ok (.iconst (-1), 1) := by decide +kernel
theorem dX10_daysToForm_5 : decode cX10_daysToForm 5 = .ok (.istore_n 2, 1) := by decide +kernel
theorem dX10_daysToForm_6 : decode cX10_daysToForm 6 = .ok (.sipush 200, 3) := by decide +kernel
theorem dX10_daysToForm_9 : decode cX10_daysToForm 9 = .ok (.istore_n 3, 1) := by decide +kernel
theorem dX10_daysToForm_10 : decode cX10_daysToForm 10 = .ok (.iload_n 3, 1) := by decide +kernel
theorem dX10_daysToForm_11 : decode cX10_daysToForm 11 = .ok (.ifCond .lt 31, 3) := by decide +kernel
theorem dX10_daysToForm_14 : decode cX10_daysToForm 14 = .ok (.aload_n 0, 1) := by decide +kernel
theorem dX10_daysToForm_15 : decode cX10_daysToForm 15 = .ok (.aload_n 0, 1) := by decide +kernel
theorem dX10_daysToForm_16 : decode cX10_daysToForm 16 = .ok (.getfield 9, 3) := by decide +kernel
theorem dX10_daysToForm_19 : decode cX10_daysToForm 19 = .ok (.iconst 0, 1) := by decide +kernel
theorem dX10_daysToForm_20 : decode cX10_daysToForm 20 = .ok (.iaload, 1) := by decide +kernel
theorem dX10_daysToForm_21 : decode cX10_daysToForm 21 = .ok (.iload_n 3, 1) := by decide +kernel
theorem dX10_daysToForm_22 : decode cX10_daysToForm 22 = .ok (.iadd, 1) := by decide +kernel
theorem dX10_daysToForm_23 : decode cX10_daysToForm 23 = .ok (.invokevirtual 108, 3) := by decide +kernel
theorem dX10_daysToForm_26 : decode cX10_daysToForm 26 = .ok (.iload_n 1, 1) := by decide +kernel
theorem dX10_daysToForm_27 : decode cX10_daysToForm 27 = .ok (.if_icmp .lt 7, 3) := by decide +kernel
theorem dX10_daysToForm_30 : decode cX10_daysToForm 30 = .ok (.iload_n 3, 1) := by decide +kernel
theorem dX10_daysToForm_31 : decode cX10_daysToForm 31 = .ok (.goto 4, 3) := by decide +kernel
theorem dX10_daysToForm_34 : decode cX10_daysToForm 34 = .ok (.iload_n 2, 1) := by decide +kernel
theorem dX10_daysToForm_35 : decode cX10_daysToForm 35 = .ok (.istore_n 2, 1) := by decide +kernel
theorem dX10_daysToForm_36 : decode cX10_daysToForm 36 = .ok (.iinc 3 (-1), 3) := by decide +kernel
theorem dX10_daysToForm_39 : decode cX10_daysToForm 39 = .ok (.goto (-29), 3) := by decide +kernel
theorem dX10_daysToForm_42 : decode cX10_daysToForm 42 = .ok (.aload_n 0, 1) := by decide +kernel
theorem dX10_daysToForm_43 : decode cX10_daysToForm 43 = .ok (.iload_n 1, 1) := by decide +kernel
theorem dX10_daysToForm_44 : decode cX10_daysToForm 44 = .ok (.ldc 111, 2) := by decide +kernel
theorem dX10_daysToForm_46 : decode cX10_daysToForm 46 = .ok (.ldc 112, 2) := by decide +kernel
theorem dX10_daysToForm_48 : decode cX10_daysToForm 48 = .ok (.invokestatic 47, 3) := by decide +kernel
theorem dX10_daysToForm_51 : decode cX10_daysToForm 51 = .ok (.ifCond .ne 7, 3) := by decide +kernel
theorem dX10_daysToForm_54 : decode cX10_daysToForm 54 = .ok (.iconst 1, 1) := by decide +kernel
theorem dX10_daysToForm_55 : decode cX10_daysToForm 55 = .ok (.goto 4, 3) := by decide +kernel
theorem dX10_daysToForm_58 : decode cX10_daysToForm 58 = .ok (.iconst 0, 1) := by decide +kernel
theorem dX10_daysToForm_59 : decode cX10_daysToForm 59 = .ok (.iconst 1, 1) := by decide +kernel
theorem dX10_daysToForm_60 : decode cX10_daysToForm 60 = .ok (.invokevirtual 51, 3) := by decide +kernel
theorem dX10_daysToForm_63 : decode cX10_daysToForm 63 = .ok (.ifCond .ne 20, 3) := by decide +kernel
theorem dX10_daysToForm_66 : decode cX10_daysToForm 66 = .ok (.aload_n 0, 1) := by decide +kernel
theorem dX10_daysToForm_67 : decode cX10_daysToForm 67 = .ok (.iload_n 2, 1) := by decide +kernel
theorem dX10_daysToForm_68 : decode cX10_daysToForm 68 = .ok (.ifCond .ge 7, 3) := by decide +kernel
theorem dX10_daysToForm_71 : decode cX10_daysToForm 71 = .ok (.iconst 1, 1) := by decide +kernel
theorem dX10_daysToForm_72 : decode cX10_daysToForm 72 = .ok (.goto 4, 3) := by decide +kernel
theorem dX10_daysToForm_75 : decode cX10_daysToForm 75 = .ok (.iconst 0, 1) := by decide +kernel
theorem dX10_daysToForm_76 : decode cX10_daysToForm 76 = .ok (.iconst 2, 1) := by decide +kernel
theorem dX10_daysToForm_77 : decode cX10_daysToForm 77 = .ok (.invokevirtual 51, 3) := by decide +kernel
theorem dX10_daysToForm_80 : decode cX10_daysToForm 80 = .ok (.ifCond .eq 7, 3) := by decide +kernel
theorem dX10_daysToForm_83 : decode cX10_daysToForm 83 = .ok (.iconst 0, 1) := by decide +kernel
theorem dX10_daysToForm_84 : decode cX10_daysToForm 84 = .ok (.goto 4, 3) := by decide +kernel
theorem dX10_daysToForm_87 : decode cX10_daysToForm 87 = .ok (.iload_n 2, 1) := by decide +kernel
theorem dX10_daysToForm_88 : decode cX10_daysToForm 88 = .ok (.ireturn, 1) := by decide +kernel
theorem dX10_row_0 : decode cX10_row 0 = .ok (.iconst 0, 1) := by decide +kernel
theorem dX10_row_1 : decode cX10_row 1 = .ok (.istore_n 3, 1) := by decide +kernel
theorem dX10_row_2 : decode cX10_row 2 = .ok (.iload_n 1, 1) := by decide +kernel
theorem dX10_row_3 : decode cX10_row 3 = .ok (.istore 4, 2) := by decide +kernel
theorem dX10_row_5 : decode cX10_row 5 = .ok (.iload 4, 2) := by decide +kernel
theorem dX10_row_7 : decode cX10_row 7 = .ok (.iload_n 1, 1) := by decide +kernel
theorem dX10_row_8 : decode cX10_row 8 = .ok (.iload_n 2, 1) := by decide +kernel
theorem dX10_row_9 : decode cX10_row 9 = .ok (.iadd, 1) := by decide +kernel
theorem dX10_row_10 : decode cX10_row 10 = .ok (.if_icmp .ge 19, 3) := by decide +kernel
theorem dX10_row_13 : decode cX10_row 13 = .ok (.iload_n 3, 1) := by decide +kernel
theorem dX10_row_14 : decode cX10_row 14 = .ok (.aload_n 0, 1) := by decide +kernel
theorem dX10_row_15 : decode cX10_row 15 = .ok (.getfield 21, 3) := by decide +kernel
theorem dX10_row_18 : decode cX10_row 18 = .ok (.iload 4, 2) := by decide +kernel
theorem dX10_row_20 : decode cX10_row 20 = .ok (.iaload, 1) := by decide +kernel
theorem dX10_row_21 : decode cX10_row 21 = .ok (.iadd, 1) := by decide +kernel
theorem dX10_row_22 : decode cX10_row 22 = .ok (.istore_n 3, 1) := by decide +kernel
theorem dX10_row_23 : decode cX10_row 23 = .ok (.iinc 4 1, 3) := by decide +kernel
theorem dX10_row_26 : decode cX10_row 26 = .ok (.goto (-21), 3) := by decide +kernel
theorem dX10_row_29 : decode cX10_row 29 = .ok (.iload_n 3, 1) := by decide +kernel
theorem dX10_row_30 : decode cX10_row 30 = .ok (.ireturn, 1) := by decide +kernel
theorem dX10_isNoRow_0 : decode cX10_isNoRow 0 = .ok (.aload_n 0, 1) := by decide +kernel
theorem dX10_isNoRow_1 : decode cX10_isNoRow 1 = .ok (.iload_n 1, 1) := by decide +kernel
theorem dX10_isNoRow_2 : decode cX10_isNoRow 2 = .ok (.iconst 1, 1) := by decide +kernel
theorem dX10_isNoRow_3 : decode cX10_isNoRow 3 = .ok (.bipush 60, 2) := by decide +kernel
theorem dX10_isNoRow_5 : decode cX10_isNoRow 5 = .ok (.invokestatic 47, 3) := by decide +kernel
theorem dX10_isNoRow_8 : decode cX10_isNoRow 8 = .ok (.ifCond .ne 7, 3) := by decide +kernel
theorem dX10_isNoRow_11 : decode cX10_isNoRow 11 = .ok (.iconst 1, 1) := by decide +kernel
theorem dX10_isNoRow_12 : decode cX10_isNoRow 12 = .ok (.goto 4, 3) := by decide +kernel
theorem dX10_isNoRow_15 : decode cX10_isNoRow 15 = .ok (.iconst 0, 1) := by decide +kernel
theorem dX10_isNoRow_16 : decode cX10_isNoRow 16 = .ok (.iconst 1, 1) := by decide +kernel
theorem dX10_isNoRow_17 : decode cX10_isNoRow 17 = .ok (.invokevirtual 51, 3) := by decide +kernel
theorem dX10_isNoRow_20 : decode cX10_isNoRow 20 = .ok (.ifCond .ne 28, 3) := by decide +kernel
theorem dX10_isNoRow_23 : decode cX10_isNoRow 23 = .ok (.aload_n 0, 1) := by decide +kernel
theorem dX10_isNoRow_24 : decode cX10_isNoRow 24 = .ok (.aload_n 0, 1) := by decide +kernel
theorem dX10_isNoRow_25 : decode cX10_isNoRow 25 = .ok (.getfield 9, 3) := by decide +kernel
theorem dX10_isNoRow_28 : decode cX10_isNoRow 28 = .ok (.iconst 0, 1) := by decide +kernel
theorem dX10_isNoRow_29 : decode cX10_isNoRow 29 = .ok (.iaload, 1) := by decide +kernel
theorem dX10_isNoRow_30 : decode cX10_isNoRow 30 = .ok (.iload_n 1, 1) := by decide +kernel
theorem dX10_isNoRow_31 : decode cX10_isNoRow 31 = .ok (.iconst 1, 1) := by decide +kernel
theorem dX10_isNoRow_32 : decode cX10_isNoRow 32 = .ok (.isub, 1) := by decide +kernel
theorem dX10_isNoRow_33 : decode cX10_isNoRow 33 = .ok (.if_icmp .ge 7, 3) := by decide +kernel
theorem dX10_isNoRow_36 : decode cX10_isNoRow 36 = .ok (.iconst 1, 1) := by decide +kernel
theorem dX10_isNoRow_37 : decode cX10_isNoRow 37 = .ok (.goto 4, 3) := by decide +kernel
theorem dX10_isNoRow_40 : decode cX10_isNoRow 40 = .ok (.iconst 0, 1) := by decide +kernel
theorem dX10_isNoRow_41 : decode cX10_isNoRow 41 = .ok (.iconst 2, 1) := by decide +kernel
theorem dX10_isNoRow_42 : decode cX10_isNoRow 42 = .ok (.invokevirtual 51, 3) := by decide +kernel
theorem dX10_isNoRow_45 : decode cX10_isNoRow 45 = .ok (.ifCond .eq 7, 3) := by decide +kernel
theorem dX10_isNoRow_48 : decode cX10_isNoRow 48 = .ok (.iconst 1, 1) := by decide +kernel
theorem dX10_isNoRow_49 : decode cX10_isNoRow 49 = .ok (.goto 4, 3) := by decide +kernel
theorem dX10_isNoRow_52 : decode cX10_isNoRow 52 = .ok (.iconst 0, 1) := by decide +kernel
theorem dX10_isNoRow_53 : decode cX10_isNoRow 53 = .ok (.ireturn, 1) := by decide +kernel
theorem dX10_bestRow_0 : decode cX10_bestRow 0 = .ok (.aload_n 0, 1) := by decide +kernel
theorem dX10_bestRow_1 : decode cX10_bestRow 1 = .ok (.invokevirtual 96, 3) := by decide +kernel
theorem dX10_bestRow_4 : decode cX10_bestRow 4 = .ok (.iconst 0, 1) := by decide +kernel
theorem dX10_bestRow_5 : decode cX10_bestRow 5 = .ok (.istore_n 2, 1) := by decide +kernel
theorem dX10_bestRow_6 : decode cX10_bestRow 6 = .ok (.iconst 1, 1) := by decide +kernel
theorem dX10_bestRow_7 : decode cX10_bestRow 7 = .ok (.istore_n 3, 1) := by decide +kernel
theorem dX10_bestRow_8 : decode cX10_bestRow 8 = .ok (.iload_n 3, 1) := by decide +kernel
theorem dX10_bestRow_9 : decode cX10_bestRow 9 = .ok (.iload_n 1, 1) := by decide +kernel
theorem dX10_bestRow_10 : decode cX10_bestRow 10 = .ok (.iadd, 1) := by decide +kernel
theorem dX10_bestRow_11 : decode cX10_bestRow 11 = .ok (.iconst 1, 1) := by decide +kernel
theorem dX10_bestRow_12 : decode cX10_bestRow 12 = .ok (.isub, 1) := by decide +kernel
theorem dX10_bestRow_13 : decode cX10_bestRow 13 = .ok (.aload_n 0, 1) := by decide +kernel
theorem dX10_bestRow_14 : decode cX10_bestRow 14 = .ok (.getfield 9, 3) := by decide +kernel
theorem dX10_bestRow_17 : decode cX10_bestRow 17 = .ok (.iconst 0, 1) := by decide +kernel
theorem dX10_bestRow_18 : decode cX10_bestRow 18 = .ok (.iaload, 1) := by decide +kernel
theorem dX10_bestRow_19 : decode cX10_bestRow 19 = .ok (.if_icmp .gt 30, 3) := by decide +kernel
theorem dX10_bestRow_22 : decode cX10_bestRow 22 = .ok (.aload_n 0, 1) := by decide +kernel
theorem dX10_bestRow_23 : decode cX10_bestRow 23 = .ok (.iload_n 3, 1) := by decide +kernel
theorem dX10_bestRow_24 : decode cX10_bestRow 24 = .ok (.iload_n 1, 1) := by decide +kernel
theorem dX10_bestRow_25 : decode cX10_bestRow 25 = .ok (.invokevirtual 113, 3) := by decide +kernel
theorem dX10_bestRow_28 : decode cX10_bestRow 28 = .ok (.aload_n 0, 1) := by decide +kernel
theorem dX10_bestRow_29 : decode cX10_bestRow 29 = .ok (.iload_n 2, 1) := by decide +kernel
theorem dX10_bestRow_30 : decode cX10_bestRow 30 = .ok (.iload_n 1, 1) := by decide +kernel
theorem dX10_bestRow_31 : decode cX10_bestRow 31 = .ok (.invokevirtual 113, 3) := by decide +kernel
theorem dX10_bestRow_34 : decode cX10_bestRow 34 = .ok (.if_icmp .le 7, 3) := by decide +kernel
theorem dX10_bestRow_37 : decode cX10_bestRow 37 = .ok (.iload_n 3, 1) := by decide +kernel
theorem dX10_bestRow_38 : decode cX10_bestRow 38 = .ok (.goto 4, 3) := by decide +kernel
theorem dX10_bestRow_41 : decode cX10_bestRow 41 = .ok (.iload_n 2, 1) := by decide +kernel
theorem dX10_bestRow_42 : decode cX10_bestRow 42 = .ok (.istore_n 2, 1) := by decide +kernel
theorem dX10_bestRow_43 : decode cX10_bestRow 43 = .ok (.iinc 3 1, 3) := by decide +kernel
theorem dX10_bestRow_46 : decode cX10_bestRow 46 = .ok (.goto (-38), 3) := by decide +kernel
theorem dX10_bestRow_49 : decode cX10_bestRow 49 = .ok (.iload_n 2, 1) := by decide +kernel
theorem dX10_bestRow_50 : decode cX10_bestRow 50 = .ok (.ireturn, 1) := by decide +kernel
theorem dX10_bestDays_0 : decode cX10_bestDays 0 = .ok (.aload_n 0, 1) := by decide +kernel
theorem dX10_bestDays_1 : decode cX10_bestDays 1 = .ok (.iload_n 1, 1) := by decide +kernel
theorem dX10_bestDays_2 : decode cX10_bestDays 2 = .ok (.invokevirtual 116, 3) := by decide +kernel
theorem dX10_bestDays_5 : decode cX10_bestDays 5 = .ok (.ifCond .eq 7, 3) := by decide +kernel
theorem dX10_bestDays_8 : decode cX10_bestDays 8 = .ok (.iconst 0, 1) := by decide +kernel
theorem dX10_bestDays_9 : decode cX10_bestDays 9 = .ok (.goto 13, 3) := by decide +kernel
theorem dX10_bestDays_12 : decode cX10_bestDays 12 = .ok (.aload_n 0, 1) := by decide +kernel
theorem dX10_bestDays_13 : decode cX10_bestDays 13 = .ok (.aload_n 0, 1) := by decide +kernel
theorem dX10_bestDays_14 : decode cX10_bestDays 14 = .ok (.iload_n 1, 1) := by decide +kernel
theorem dX10_bestDays_15 : decode cX10_bestDays 15 = .ok (.invokevirtual 119, 3) := by decide +kernel
theorem dX10_bestDays_18 : decode cX10_bestDays 18 = .ok (.iload_n 1, 1) := by decide +kernel
theorem dX10_bestDays_19 : decode cX10_bestDays 19 = .ok (.invokevirtual 113, 3) := by decide +kernel
theorem dX10_bestDays_22 : decode cX10_bestDays 22 = .ok (.ireturn, 1) := by decide +kernel
theorem dX10_bestDaysByTrying_0 : decode cX10_bestDaysByTrying 0 = .ok (.aload_n 0, 1) := by decide +kernel
theorem dX10_bestDaysByTrying_1 : decode cX10_bestDaysByTrying 1 = .ok (.iload_n 1, 1) := by decide +kernel
theorem dX10_bestDaysByTrying_2 : decode cX10_bestDaysByTrying 2 = .ok (.invokevirtual 122, 3) := by decide +kernel
theorem dX10_bestDaysByTrying_5 : decode cX10_bestDaysByTrying 5 = .ok (.ireturn, 1) := by decide +kernel
theorem dX10_bestDaysStart_0 : decode cX10_bestDaysStart 0 = .ok (.aload_n 0, 1) := by decide +kernel
theorem dX10_bestDaysStart_1 : decode cX10_bestDaysStart 1 = .ok (.iload_n 1, 1) := by decide +kernel
theorem dX10_bestDaysStart_2 : decode cX10_bestDaysStart 2 = .ok (.invokevirtual 116, 3) := by decide +kernel
theorem dX10_bestDaysStart_5 : decode cX10_bestDaysStart 5 = .ok (.ifCond .eq 7, 3) := by decide +kernel
theorem dX10_bestDaysStart_8 : decode cX10_bestDaysStart 8 = .ok (.iconst 0, 1) := by decide +kernel
theorem dX10_bestDaysStart_9 : decode cX10_bestDaysStart 9 = .ok (.goto 8, 3) := by decide +kernel
theorem dX10_bestDaysStart_12 : decode cX10_bestDaysStart 12 = .ok (.aload_n 0, 1) := by decide +kernel
theorem dX10_bestDaysStart_13 : decode cX10_bestDaysStart 13 = .ok (.iload_n 1, 1) := by decide +kernel
theorem dX10_bestDaysStart_14 : decode cX10_bestDaysStart 14 = .ok (.invokevirtual 119, 3) := by decide +kernel
theorem dX10_bestDaysStart_17 : decode cX10_bestDaysStart 17 = .ok (.ireturn, 1) := by decide +kernel
theorem dX10_intensity_0 : decode cX10_intensity 0 = .ok (.iload_n 2, 1) := by decide +kernel
theorem dX10_intensity_1 : decode cX10_intensity 1 = .ok (.istore_n 3, 1) := by decide +kernel
theorem dX10_intensity_2 : decode cX10_intensity 2 = .ok (.iconst 0, 1) := by decide +kernel
theorem dX10_intensity_3 : decode cX10_intensity 3 = .ok (.istore 4, 2) := by decide +kernel
theorem dX10_intensity_5 : decode cX10_intensity 5 = .ok (.iload_n 3, 1) := by decide +kernel
theorem dX10_intensity_6 : decode cX10_intensity 6 = .ok (.aload_n 0, 1) := by decide +kernel
theorem dX10_intensity_7 : decode cX10_intensity 7 = .ok (.getfield 9, 3) := by decide +kernel
theorem dX10_intensity_10 : decode cX10_intensity 10 = .ok (.aload_n 0, 1) := by decide +kernel
theorem dX10_intensity_11 : decode cX10_intensity 11 = .ok (.iload_n 1, 1) := by decide +kernel
theorem dX10_intensity_12 : decode cX10_intensity 12 = .ok (.invokevirtual 75, 3) := by decide +kernel
theorem dX10_intensity_15 : decode cX10_intensity 15 = .ok (.iconst 3, 1) := by decide +kernel
theorem dX10_intensity_16 : decode cX10_intensity 16 = .ok (.iadd, 1) := by decide +kernel
theorem dX10_intensity_17 : decode cX10_intensity 17 = .ok (.iload 4, 2) := by decide +kernel
theorem dX10_intensity_19 : decode cX10_intensity 19 = .ok (.iadd, 1) := by decide +kernel
theorem dX10_intensity_20 : decode cX10_intensity 20 = .ok (.iaload, 1) := by decide +kernel
theorem dX10_intensity_21 : decode cX10_intensity 21 = .ok (.if_icmp .lt 27, 3) := by decide +kernel
theorem dX10_intensity_24 : decode cX10_intensity 24 = .ok (.iload_n 3, 1) := by decide +kernel
theorem dX10_intensity_25 : decode cX10_intensity 25 = .ok (.aload_n 0, 1) := by decide +kernel
theorem dX10_intensity_26 : decode cX10_intensity 26 = .ok (.getfield 9, 3) := by decide +kernel
theorem dX10_intensity_29 : decode cX10_intensity 29 = .ok (.aload_n 0, 1) := by decide +kernel
theorem dX10_intensity_30 : decode cX10_intensity 30 = .ok (.iload_n 1, 1) := by decide +kernel
theorem dX10_intensity_31 : decode cX10_intensity 31 = .ok (.invokevirtual 75, 3) := by decide +kernel
theorem dX10_intensity_34 : decode cX10_intensity 34 = .ok (.iconst 3, 1) := by decide +kernel
theorem dX10_intensity_35 : decode cX10_intensity 35 = .ok (.iadd, 1) := by decide +kernel
theorem dX10_intensity_36 : decode cX10_intensity 36 = .ok (.iload 4, 2) := by decide +kernel
theorem dX10_intensity_38 : decode cX10_intensity 38 = .ok (.iadd, 1) := by decide +kernel
theorem dX10_intensity_39 : decode cX10_intensity 39 = .ok (.iaload, 1) := by decide +kernel
theorem dX10_intensity_40 : decode cX10_intensity 40 = .ok (.isub, 1) := by decide +kernel
theorem dX10_intensity_41 : decode cX10_intensity 41 = .ok (.istore_n 3, 1) := by decide +kernel
theorem dX10_intensity_42 : decode cX10_intensity 42 = .ok (.iinc 4 1, 3) := by decide +kernel
theorem dX10_intensity_45 : decode cX10_intensity 45 = .ok (.goto (-40), 3) := by decide +kernel
theorem dX10_intensity_48 : decode cX10_intensity 48 = .ok (.aload_n 0, 1) := by decide +kernel
theorem dX10_intensity_49 : decode cX10_intensity 49 = .ok (.getfield 9, 3) := by decide +kernel
theorem dX10_intensity_52 : decode cX10_intensity 52 = .ok (.aload_n 0, 1) := by decide +kernel
theorem dX10_intensity_53 : decode cX10_intensity 53 = .ok (.iload_n 1, 1) := by decide +kernel
theorem dX10_intensity_54 : decode cX10_intensity 54 = .ok (.invokevirtual 75, 3) := by decide +kernel
theorem dX10_intensity_57 : decode cX10_intensity 57 = .ok (.iconst 3, 1) := by decide +kernel
theorem dX10_intensity_58 : decode cX10_intensity 58 = .ok (.iadd, 1) := by decide +kernel
theorem dX10_intensity_59 : decode cX10_intensity 59 = .ok (.bipush 8, 2) := by decide +kernel
theorem dX10_intensity_61 : decode cX10_intensity 61 = .ok (.iadd, 1) := by decide +kernel
theorem dX10_intensity_62 : decode cX10_intensity 62 = .ok (.iload 4, 2) := by decide +kernel
theorem dX10_intensity_64 : decode cX10_intensity 64 = .ok (.iadd, 1) := by decide +kernel
theorem dX10_intensity_65 : decode cX10_intensity 65 = .ok (.iaload, 1) := by decide +kernel
theorem dX10_intensity_66 : decode cX10_intensity 66 = .ok (.ireturn, 1) := by decide +kernel
theorem dX10_effort_0 : decode cX10_effort 0 = .ok (.aload_n 0, 1) := by decide +kernel
theorem dX10_effort_1 : decode cX10_effort 1 = .ok (.iload_n 1, 1) := by decide +kernel
theorem dX10_effort_2 : decode cX10_effort 2 = .ok (.invokevirtual 87, 3) := by decide +kernel
theorem dX10_effort_5 : decode cX10_effort 5 = .ok (.istore_n 3, 1) := by decide +kernel
theorem dX10_effort_6 : decode cX10_effort 6 = .ok (.iconst (-1), 1) := by decide +kernel
theorem dX10_effort_7 : decode cX10_effort 7 = .ok (.istore 4, 2) := by decide +kernel
theorem dX10_effort_9 : decode cX10_effort 9 = .ok (.iconst 0, 1) := by decide +kernel
theorem dX10_effort_10 : decode cX10_effort 10 = .ok (.istore 5, 2) := by decide +kernel
theorem dX10_effort_12 : decode cX10_effort 12 = .ok (.iconst 0, 1) := by decide +kernel
theorem dX10_effort_13 : decode cX10_effort 13 = .ok (.istore 6, 2) := by decide +kernel
theorem dX10_effort_15 : decode cX10_effort 15 = .ok (.iload 6, 2) := by decide +kernel
theorem dX10_effort_17 : decode cX10_effort 17 = .ok (.iload_n 3, 1) := by decide +kernel
theorem dX10_effort_18 : decode cX10_effort 18 = .ok (.if_icmp .ge 63, 3) := by decide +kernel
theorem dX10_effort_21 : decode cX10_effort 21 = .ok (.iload 5, 2) := by decide +kernel
theorem dX10_effort_23 : decode cX10_effort 23 = .ok (.aload_n 0, 1) := by decide +kernel
theorem dX10_effort_24 : decode cX10_effort 24 = .ok (.iload_n 1, 1) := by decide +kernel
theorem dX10_effort_25 : decode cX10_effort 25 = .ok (.iload 6, 2) := by decide +kernel
theorem dX10_effort_27 : decode cX10_effort 27 = .ok (.invokevirtual 125, 3) := by decide +kernel
theorem dX10_effort_30 : decode cX10_effort 30 = .ok (.iload 6, 2) := by decide +kernel
theorem dX10_effort_32 : decode cX10_effort 32 = .ok (.iload_n 2, 1) := by decide +kernel
theorem dX10_effort_33 : decode cX10_effort 33 = .ok (.if_icmp .ge 7, 3) := by decide +kernel
theorem dX10_effort_36 : decode cX10_effort 36 = .ok (.iconst 0, 1) := by decide +kernel
theorem dX10_effort_37 : decode cX10_effort 37 = .ok (.goto 12, 3) := by decide +kernel
theorem dX10_effort_40 : decode cX10_effort 40 = .ok (.aload_n 0, 1) := by decide +kernel
theorem dX10_effort_41 : decode cX10_effort 41 = .ok (.iload_n 1, 1) := by decide +kernel
theorem dX10_effort_42 : decode cX10_effort 42 = .ok (.iload 6, 2) := by decide +kernel
theorem dX10_effort_44 : decode cX10_effort 44 = .ok (.iload_n 2, 1) := by decide +kernel
theorem dX10_effort_45 : decode cX10_effort 45 = .ok (.isub, 1) := by decide +kernel
theorem dX10_effort_46 : decode cX10_effort 46 = .ok (.invokevirtual 125, 3) := by decide +kernel
theorem dX10_effort_49 : decode cX10_effort 49 = .ok (.isub, 1) := by decide +kernel
theorem dX10_effort_50 : decode cX10_effort 50 = .ok (.iadd, 1) := by decide +kernel
theorem dX10_effort_51 : decode cX10_effort 51 = .ok (.istore 5, 2) := by decide +kernel
theorem dX10_effort_53 : decode cX10_effort 53 = .ok (.iload 6, 2) := by decide +kernel
theorem dX10_effort_55 : decode cX10_effort 55 = .ok (.iload_n 2, 1) := by decide +kernel
theorem dX10_effort_56 : decode cX10_effort 56 = .ok (.iconst 1, 1) := by decide +kernel
theorem dX10_effort_57 : decode cX10_effort 57 = .ok (.isub, 1) := by decide +kernel
theorem dX10_effort_58 : decode cX10_effort 58 = .ok (.if_icmp .lt 13, 3) := by decide +kernel
theorem dX10_effort_61 : decode cX10_effort 61 = .ok (.iload 4, 2) := by decide +kernel
theorem dX10_effort_63 : decode cX10_effort 63 = .ok (.iload 5, 2) := by decide +kernel
theorem dX10_effort_65 : decode cX10_effort 65 = .ok (.invokestatic 128, 3) := by decide +kernel
theorem dX10_effort_68 : decode cX10_effort 68 = .ok (.goto 5, 3) := by decide +kernel
theorem dX10_effort_71 : decode cX10_effort 71 = .ok (.iload 4, 2) := by decide +kernel
theorem dX10_effort_73 : decode cX10_effort 73 = .ok (.istore 4, 2) := by decide +kernel
theorem dX10_effort_75 : decode cX10_effort 75 = .ok (.iinc 6 1, 3) := by decide +kernel
theorem dX10_effort_78 : decode cX10_effort 78 = .ok (.goto (-63), 3) := by decide +kernel
theorem dX10_effort_81 : decode cX10_effort 81 = .ok (.iload 4, 2) := by decide +kernel
theorem dX10_effort_83 : decode cX10_effort 83 = .ok (.ireturn, 1) := by decide +kernel
theorem dX10_strongest_0 : decode cX10_strongest 0 = .ok (.iconst (-1), 1) := by decide +kernel
theorem dX10_strongest_1 : decode cX10_strongest 1 = .ok (.istore_n 2, 1) := by decide +kernel
theorem dX10_strongest_2 : decode cX10_strongest 2 = .ok (.iconst 0, 1) := by decide +kernel
theorem dX10_strongest_3 : decode cX10_strongest 3 = .ok (.istore_n 3, 1) := by decide +kernel
theorem dX10_strongest_4 : decode cX10_strongest 4 = .ok (.iload_n 3, 1) := by decide +kernel
theorem dX10_strongest_5 : decode cX10_strongest 5 = .ok (.aload_n 0, 1) := by decide +kernel
theorem dX10_strongest_6 : decode cX10_strongest 6 = .ok (.getfield 9, 3) := by decide +kernel
theorem dX10_strongest_9 : decode cX10_strongest 9 = .ok (.iconst 2, 1) := by decide +kernel
theorem dX10_strongest_10 : decode cX10_strongest 10 = .ok (.iaload, 1) := by decide +kernel
theorem dX10_strongest_11 : decode cX10_strongest 11 = .ok (.if_icmp .ge 52, 3) := by decide +kernel
theorem dX10_strongest_14 : decode cX10_strongest 14 = .ok (.aload_n 0, 1) := by decide +kernel
theorem dX10_strongest_15 : decode cX10_strongest 15 = .ok (.iload_n 3, 1) := by decide +kernel
theorem dX10_strongest_16 : decode cX10_strongest 16 = .ok (.invokevirtual 93, 3) := by decide +kernel
theorem dX10_strongest_19 : decode cX10_strongest 19 = .ok (.istore 4, 2) := by decide +kernel
theorem dX10_strongest_21 : decode cX10_strongest 21 = .ok (.aload_n 0, 1) := by decide +kernel
theorem dX10_strongest_22 : decode cX10_strongest 22 = .ok (.iload 4, 2) := by decide +kernel
theorem dX10_strongest_24 : decode cX10_strongest 24 = .ok (.iload_n 1, 1) := by decide +kernel
theorem dX10_strongest_25 : decode cX10_strongest 25 = .ok (.invokevirtual 131, 3) := by decide +kernel
theorem dX10_strongest_28 : decode cX10_strongest 28 = .ok (.istore 5, 2) := by decide +kernel
theorem dX10_strongest_30 : decode cX10_strongest 30 = .ok (.iload 5, 2) := by decide +kernel
theorem dX10_strongest_32 : decode cX10_strongest 32 = .ok (.ifCond .lt 23, 3) := by decide +kernel
theorem dX10_strongest_35 : decode cX10_strongest 35 = .ok (.iload_n 2, 1) := by decide +kernel
theorem dX10_strongest_36 : decode cX10_strongest 36 = .ok (.ifCond .lt 14, 3) := by decide +kernel
theorem dX10_strongest_39 : decode cX10_strongest 39 = .ok (.iload 5, 2) := by decide +kernel
theorem dX10_strongest_41 : decode cX10_strongest 41 = .ok (.aload_n 0, 1) := by decide +kernel
theorem dX10_strongest_42 : decode cX10_strongest 42 = .ok (.iload_n 2, 1) := by decide +kernel
theorem dX10_strongest_43 : decode cX10_strongest 43 = .ok (.iload_n 1, 1) := by decide +kernel
theorem dX10_strongest_44 : decode cX10_strongest 44 = .ok (.invokevirtual 131, 3) := by decide +kernel
theorem dX10_strongest_47 : decode cX10_strongest 47 = .ok (.if_icmp .le 8, 3) := by decide +kernel
theorem dX10_strongest_50 : decode cX10_strongest 50 = .ok (.iload 4, 2) := by decide +kernel
theorem dX10_strongest_52 : decode cX10_strongest 52 = .ok (.goto 4, 3) := by decide +kernel
theorem dX10_strongest_55 : decode cX10_strongest 55 = .ok (.iload_n 2, 1) := by decide +kernel
theorem dX10_strongest_56 : decode cX10_strongest 56 = .ok (.istore_n 2, 1) := by decide +kernel
theorem dX10_strongest_57 : decode cX10_strongest 57 = .ok (.iinc 3 1, 3) := by decide +kernel
theorem dX10_strongest_60 : decode cX10_strongest 60 = .ok (.goto (-56), 3) := by decide +kernel
theorem dX10_strongest_63 : decode cX10_strongest 63 = .ok (.iload_n 2, 1) := by decide +kernel
theorem dX10_strongest_64 : decode cX10_strongest 64 = .ok (.ireturn, 1) := by decide +kernel
theorem dX10_isNoEffort_0 : decode cX10_isNoEffort 0 = .ok (.aload_n 0, 1) := by decide +kernel
theorem dX10_isNoEffort_1 : decode cX10_isNoEffort 1 = .ok (.iload_n 1, 1) := by decide +kernel
theorem dX10_isNoEffort_2 : decode cX10_isNoEffort 2 = .ok (.iconst 1, 1) := by decide +kernel
theorem dX10_isNoEffort_3 : decode cX10_isNoEffort 3 = .ok (.sipush 240, 3) := by decide +kernel
theorem dX10_isNoEffort_6 : decode cX10_isNoEffort 6 = .ok (.invokestatic 47, 3) := by decide +kernel
theorem dX10_isNoEffort_9 : decode cX10_isNoEffort 9 = .ok (.ifCond .ne 7, 3) := by decide +kernel
theorem dX10_isNoEffort_12 : decode cX10_isNoEffort 12 = .ok (.iconst 1, 1) := by decide +kernel
theorem dX10_isNoEffort_13 : decode cX10_isNoEffort 13 = .ok (.goto 4, 3) := by decide +kernel
theorem dX10_isNoEffort_16 : decode cX10_isNoEffort 16 = .ok (.iconst 0, 1) := by decide +kernel
theorem dX10_isNoEffort_17 : decode cX10_isNoEffort 17 = .ok (.iconst 1, 1) := by decide +kernel
theorem dX10_isNoEffort_18 : decode cX10_isNoEffort 18 = .ok (.invokevirtual 51, 3) := by decide +kernel
theorem dX10_isNoEffort_21 : decode cX10_isNoEffort 21 = .ok (.ifCond .ne 24, 3) := by decide +kernel
theorem dX10_isNoEffort_24 : decode cX10_isNoEffort 24 = .ok (.aload_n 0, 1) := by decide +kernel
theorem dX10_isNoEffort_25 : decode cX10_isNoEffort 25 = .ok (.aload_n 0, 1) := by decide +kernel
theorem dX10_isNoEffort_26 : decode cX10_isNoEffort 26 = .ok (.iload_n 1, 1) := by decide +kernel
theorem dX10_isNoEffort_27 : decode cX10_isNoEffort 27 = .ok (.invokevirtual 134, 3) := by decide +kernel
theorem dX10_isNoEffort_30 : decode cX10_isNoEffort 30 = .ok (.ifCond .ge 7, 3) := by decide +kernel
theorem dX10_isNoEffort_33 : decode cX10_isNoEffort 33 = .ok (.iconst 1, 1) := by decide +kernel
theorem dX10_isNoEffort_34 : decode cX10_isNoEffort 34 = .ok (.goto 4, 3) := by decide +kernel
theorem dX10_isNoEffort_37 : decode cX10_isNoEffort 37 = .ok (.iconst 0, 1) := by decide +kernel
theorem dX10_isNoEffort_38 : decode cX10_isNoEffort 38 = .ok (.iconst 2, 1) := by decide +kernel
theorem dX10_isNoEffort_39 : decode cX10_isNoEffort 39 = .ok (.invokevirtual 51, 3) := by decide +kernel
theorem dX10_isNoEffort_42 : decode cX10_isNoEffort 42 = .ok (.ifCond .eq 7, 3) := by decide +kernel
theorem dX10_isNoEffort_45 : decode cX10_isNoEffort 45 = .ok (.iconst 1, 1) := by decide +kernel
theorem dX10_isNoEffort_46 : decode cX10_isNoEffort 46 = .ok (.goto 4, 3) := by decide +kernel
theorem dX10_isNoEffort_49 : decode cX10_isNoEffort 49 = .ok (.iconst 0, 1) := by decide +kernel
theorem dX10_isNoEffort_50 : decode cX10_isNoEffort 50 = .ok (.ireturn, 1) := by decide +kernel
theorem dX10_bestEffort_0 : decode cX10_bestEffort 0 = .ok (.aload_n 0, 1) := by decide +kernel
theorem dX10_bestEffort_1 : decode cX10_bestEffort 1 = .ok (.iload_n 1, 1) := by decide +kernel
theorem dX10_bestEffort_2 : decode cX10_bestEffort 2 = .ok (.invokevirtual 137, 3) := by decide +kernel
theorem dX10_bestEffort_5 : decode cX10_bestEffort 5 = .ok (.ifCond .eq 7, 3) := by decide +kernel
theorem dX10_bestEffort_8 : decode cX10_bestEffort 8 = .ok (.iconst 0, 1) := by decide +kernel
theorem dX10_bestEffort_9 : decode cX10_bestEffort 9 = .ok (.goto 13, 3) := by decide +kernel
theorem dX10_bestEffort_12 : decode cX10_bestEffort 12 = .ok (.aload_n 0, 1) := by decide +kernel
theorem dX10_bestEffort_13 : decode cX10_bestEffort 13 = .ok (.aload_n 0, 1) := by decide +kernel
theorem dX10_bestEffort_14 : decode cX10_bestEffort 14 = .ok (.iload_n 1, 1) := by decide +kernel
theorem dX10_bestEffort_15 : decode cX10_bestEffort 15 = .ok (.invokevirtual 134, 3) := by decide +kernel
theorem dX10_bestEffort_18 : decode cX10_bestEffort 18 = .ok (.iload_n 1, 1) := by decide +kernel
theorem dX10_bestEffort_19 : decode cX10_bestEffort 19 = .ok (.invokevirtual 131, 3) := by decide +kernel
theorem dX10_bestEffort_22 : decode cX10_bestEffort 22 = .ok (.ireturn, 1) := by decide +kernel
theorem dX10_bestEffortByTrying_0 : decode cX10_bestEffortByTrying 0 = .ok (.aload_n 0, 1) := by decide +kernel
theorem dX10_bestEffortByTrying_1 : decode cX10_bestEffortByTrying 1 = .ok (.iload_n 1, 1) := by decide +kernel
theorem dX10_bestEffortByTrying_2 : decode cX10_bestEffortByTrying 2 = .ok (.invokevirtual 140, 3) := by decide +kernel
theorem dX10_bestEffortByTrying_5 : decode cX10_bestEffortByTrying 5 = .ok (.ireturn, 1) := by decide +kernel
theorem dX10_bestEffortSession_0 : decode cX10_bestEffortSession 0 = .ok (.aload_n 0, 1) := by decide +kernel
theorem dX10_bestEffortSession_1 : decode cX10_bestEffortSession 1 = .ok (.iload_n 1, 1) := by decide +kernel
theorem dX10_bestEffortSession_2 : decode cX10_bestEffortSession 2 = .ok (.invokevirtual 137, 3) := by decide +kernel
theorem dX10_bestEffortSession_5 : decode cX10_bestEffortSession 5 = .ok (.ifCond .eq 7, 3) := by decide +kernel
theorem dX10_bestEffortSession_8 : decode cX10_bestEffortSession 8 = .ok (.iconst 0, 1) := by decide +kernel
theorem dX10_bestEffortSession_9 : decode cX10_bestEffortSession 9 = .ok (.goto 17, 3) := by decide +kernel
theorem dX10_bestEffortSession_12 : decode cX10_bestEffortSession 12 = .ok (.aload_n 0, 1) := by decide +kernel
theorem dX10_bestEffortSession_13 : decode cX10_bestEffortSession 13 = .ok (.getfield 9, 3) := by decide +kernel
theorem dX10_bestEffortSession_16 : decode cX10_bestEffortSession 16 = .ok (.aload_n 0, 1) := by decide +kernel
theorem dX10_bestEffortSession_17 : decode cX10_bestEffortSession 17 = .ok (.aload_n 0, 1) := by decide +kernel
theorem dX10_bestEffortSession_18 : decode cX10_bestEffortSession 18 = .ok (.iload_n 1, 1) := by decide +kernel
theorem dX10_bestEffortSession_19 : decode cX10_bestEffortSession 19 = .ok (.invokevirtual 134, 3) := by decide +kernel
theorem dX10_bestEffortSession_22 : decode cX10_bestEffortSession 22 = .ok (.invokevirtual 75, 3) := by decide +kernel
theorem dX10_bestEffortSession_25 : decode cX10_bestEffortSession 25 = .ok (.iaload, 1) := by decide +kernel
theorem dX10_bestEffortSession_26 : decode cX10_bestEffortSession 26 = .ok (.ireturn, 1) := by decide +kernel
theorem dX10_startPlan_0 : decode cX10_startPlan 0 = .ok (.aload_n 0, 1) := by decide +kernel
theorem dX10_startPlan_1 : decode cX10_startPlan 1 = .ok (.iconst 0, 1) := by decide +kernel
theorem dX10_startPlan_2 : decode cX10_startPlan 2 = .ok (.putfield 31, 3) := by decide +kernel
theorem dX10_startPlan_5 : decode cX10_startPlan 5 = .ok (.aload_n 0, 1) := by decide +kernel
theorem dX10_startPlan_6 : decode cX10_startPlan 6 = .ok (.invokevirtual 55, 3) := by decide +kernel
theorem dX10_startPlan_9 : decode cX10_startPlan 9 = .ok (.aload_n 0, 1) := by decide +kernel
theorem dX10_startPlan_10 : decode cX10_startPlan 10 = .ok (.getfield 9, 3) := by decide +kernel
theorem dX10_startPlan_13 : decode cX10_startPlan 13 = .ok (.iconst 4, 1) := by decide +kernel
theorem dX10_startPlan_14 : decode cX10_startPlan 14 = .ok (.iaload, 1) := by decide +kernel
theorem dX10_startPlan_15 : decode cX10_startPlan 15 = .ok (.iconst 1, 1) := by decide +kernel
theorem dX10_startPlan_16 : decode cX10_startPlan 16 = .ok (.if_icmp .ne 13, 3) := by decide +kernel
theorem dX10_startPlan_19 : decode cX10_startPlan 19 = .ok (.aload_n 0, 1) := by decide +kernel
theorem dX10_startPlan_20 : decode cX10_startPlan 20 = .ok (.getfield 9, 3) := by decide +kernel
theorem dX10_startPlan_23 : decode cX10_startPlan 23 = .ok (.bipush 6, 2) := by decide +kernel
theorem dX10_startPlan_25 : decode cX10_startPlan 25 = .ok (.iaload, 1) := by decide +kernel
theorem dX10_startPlan_26 : decode cX10_startPlan 26 = .ok (.goto 4, 3) := by decide +kernel
theorem dX10_startPlan_29 : decode cX10_startPlan 29 = .ok (.iconst 0, 1) := by decide +kernel
theorem dX10_startPlan_30 : decode cX10_startPlan 30 = .ok (.istore_n 1, 1) := by decide +kernel
theorem dX10_startPlan_31 : decode cX10_startPlan 31 = .ok (.aload_n 0, 1) := by decide +kernel
theorem dX10_startPlan_32 : decode cX10_startPlan 32 = .ok (.getfield 9, 3) := by decide +kernel
theorem dX10_startPlan_35 : decode cX10_startPlan 35 = .ok (.iconst 4, 1) := by decide +kernel
theorem dX10_startPlan_36 : decode cX10_startPlan 36 = .ok (.iconst 1, 1) := by decide +kernel
theorem dX10_startPlan_37 : decode cX10_startPlan 37 = .ok (.iastore, 1) := by decide +kernel
theorem dX10_startPlan_38 : decode cX10_startPlan 38 = .ok (.aload_n 0, 1) := by decide +kernel
theorem dX10_startPlan_39 : decode cX10_startPlan 39 = .ok (.getfield 9, 3) := by decide +kernel
theorem dX10_startPlan_42 : decode cX10_startPlan 42 = .ok (.iconst 5, 1) := by decide +kernel
theorem dX10_startPlan_43 : decode cX10_startPlan 43 = .ok (.aload_n 0, 1) := by decide +kernel
theorem dX10_startPlan_44 : decode cX10_startPlan 44 = .ok (.getfield 9, 3) := by decide +kernel
theorem dX10_startPlan_47 : decode cX10_startPlan 47 = .ok (.iconst 0, 1) := by decide +kernel
theorem dX10_startPlan_48 : decode cX10_startPlan 48 = .ok (.iaload, 1) := by decide +kernel
theorem dX10_startPlan_49 : decode cX10_startPlan 49 = .ok (.iastore, 1) := by decide +kernel
theorem dX10_startPlan_50 : decode cX10_startPlan 50 = .ok (.aload_n 0, 1) := by decide +kernel
theorem dX10_startPlan_51 : decode cX10_startPlan 51 = .ok (.getfield 9, 3) := by decide +kernel
theorem dX10_startPlan_54 : decode cX10_startPlan 54 = .ok (.bipush 6, 2) := by decide +kernel
theorem dX10_startPlan_56 : decode cX10_startPlan 56 = .ok (.iconst 0, 1) := by decide +kernel
theorem dX10_startPlan_57 : decode cX10_startPlan 57 = .ok (.iastore, 1) := by decide +kernel
theorem dX10_startPlan_58 : decode cX10_startPlan 58 = .ok (.iload_n 1, 1) := by decide +kernel
theorem dX10_startPlan_59 : decode cX10_startPlan 59 = .ok (.ireturn, 1) := by decide +kernel
theorem dX10_addTarget_0 : decode cX10_addTarget 0 = .ok (.aload_n 0, 1) := by decide +kernel
theorem dX10_addTarget_1 : decode cX10_addTarget 1 = .ok (.iload_n 1, 1) := by decide +kernel
theorem dX10_addTarget_2 : decode cX10_addTarget 2 = .ok (.iconst 0, 1) := by decide +kernel
theorem dX10_addTarget_3 : decode cX10_addTarget 3 = .ok (.sipush 20000, 3) := by decide +kernel
theorem dX10_addTarget_6 : decode cX10_addTarget 6 = .ok (.invokestatic 47, 3) := by decide +kernel
theorem dX10_addTarget_9 : decode cX10_addTarget 9 = .ok (.ifCond .ne 7, 3) := by decide +kernel
theorem dX10_addTarget_12 : decode cX10_addTarget 12 = .ok (.iconst 1, 1) := by decide +kernel
theorem dX10_addTarget_13 : decode cX10_addTarget 13 = .ok (.goto 4, 3) := by decide +kernel
theorem dX10_addTarget_16 : decode cX10_addTarget 16 = .ok (.iconst 0, 1) := by decide +kernel
theorem dX10_addTarget_17 : decode cX10_addTarget 17 = .ok (.iconst 1, 1) := by decide +kernel
theorem dX10_addTarget_18 : decode cX10_addTarget 18 = .ok (.invokevirtual 51, 3) := by decide +kernel
theorem dX10_addTarget_21 : decode cX10_addTarget 21 = .ok (.ifCond .ne 52, 3) := by decide +kernel
theorem dX10_addTarget_24 : decode cX10_addTarget 24 = .ok (.aload_n 0, 1) := by decide +kernel
theorem dX10_addTarget_25 : decode cX10_addTarget 25 = .ok (.aload_n 0, 1) := by decide +kernel
theorem dX10_addTarget_26 : decode cX10_addTarget 26 = .ok (.getfield 9, 3) := by decide +kernel
theorem dX10_addTarget_29 : decode cX10_addTarget 29 = .ok (.iconst 4, 1) := by decide +kernel
theorem dX10_addTarget_30 : decode cX10_addTarget 30 = .ok (.iaload, 1) := by decide +kernel
theorem dX10_addTarget_31 : decode cX10_addTarget 31 = .ok (.ifCond .eq 30, 3) := by decide +kernel
theorem dX10_addTarget_34 : decode cX10_addTarget 34 = .ok (.aload_n 0, 1) := by decide +kernel
theorem dX10_addTarget_35 : decode cX10_addTarget 35 = .ok (.getfield 9, 3) := by decide +kernel
theorem dX10_addTarget_38 : decode cX10_addTarget 38 = .ok (.iconst 5, 1) := by decide +kernel
theorem dX10_addTarget_39 : decode cX10_addTarget 39 = .ok (.iaload, 1) := by decide +kernel
theorem dX10_addTarget_40 : decode cX10_addTarget 40 = .ok (.aload_n 0, 1) := by decide +kernel
theorem dX10_addTarget_41 : decode cX10_addTarget 41 = .ok (.getfield 9, 3) := by decide +kernel
theorem dX10_addTarget_44 : decode cX10_addTarget 44 = .ok (.iconst 0, 1) := by decide +kernel
theorem dX10_addTarget_45 : decode cX10_addTarget 45 = .ok (.iaload, 1) := by decide +kernel
theorem dX10_addTarget_46 : decode cX10_addTarget 46 = .ok (.if_icmp .ne 15, 3) := by decide +kernel
theorem dX10_addTarget_49 : decode cX10_addTarget 49 = .ok (.aload_n 0, 1) := by decide +kernel
theorem dX10_addTarget_50 : decode cX10_addTarget 50 = .ok (.getfield 9, 3) := by decide +kernel
theorem dX10_addTarget_53 : decode cX10_addTarget 53 = .ok (.bipush 6, 2) := by decide +kernel
theorem dX10_addTarget_55 : decode cX10_addTarget 55 = .ok (.iaload, 1) := by decide +kernel
theorem dX10_addTarget_56 : decode cX10_addTarget 56 = .ok (.bipush 28, 2) := by decide +kernel
theorem dX10_addTarget_58 : decode cX10_addTarget 58 = .ok (.if_icmp .ne 7, 3) := by decide +kernel
theorem dX10_addTarget_61 : decode cX10_addTarget 61 = .ok (.iconst 1, 1) := by decide +kernel
theorem dX10_addTarget_62 : decode cX10_addTarget 62 = .ok (.goto 4, 3) := by decide +kernel
theorem dX10_addTarget_65 : decode cX10_addTarget 65 = .ok (.iconst 0, 1) := by decide +kernel
theorem dX10_addTarget_66 : decode cX10_addTarget 66 = .ok (.iconst 2, 1) := by decide +kernel
theorem dX10_addTarget_67 : decode cX10_addTarget 67 = .ok (.invokevirtual 51, 3) := by decide +kernel
theorem dX10_addTarget_70 : decode cX10_addTarget 70 = .ok (.ifCond .eq 5, 3) := by decide +kernel
theorem dX10_addTarget_73 : decode cX10_addTarget 73 = .ok (.iconst 0, 1) := by decide +kernel
theorem dX10_addTarget_74 : decode cX10_addTarget 74 = .ok (.ireturn, 1) := by decide +kernel
theorem dX10_addTarget_75 : decode cX10_addTarget 75 = .ok (.aload_n 0, 1) := by decide +kernel
theorem dX10_addTarget_76 : decode cX10_addTarget 76 = .ok (.invokevirtual 55, 3) := by decide +kernel
theorem dX10_addTarget_79 : decode cX10_addTarget 79 = .ok (.aload_n 0, 1) := by decide +kernel
theorem dX10_addTarget_80 : decode cX10_addTarget 80 = .ok (.getfield 9, 3) := by decide +kernel
theorem dX10_addTarget_83 : decode cX10_addTarget 83 = .ok (.bipush 40, 2) := by decide +kernel
theorem dX10_addTarget_85 : decode cX10_addTarget 85 = .ok (.aload_n 0, 1) := by decide +kernel
theorem dX10_addTarget_86 : decode cX10_addTarget 86 = .ok (.getfield 9, 3) := by decide +kernel
theorem dX10_addTarget_89 : decode cX10_addTarget 89 = .ok (.bipush 6, 2) := by decide +kernel
theorem dX10_addTarget_91 : decode cX10_addTarget 91 = .ok (.iaload, 1) := by decide +kernel
theorem dX10_addTarget_92 : decode cX10_addTarget 92 = .ok (.iadd, 1) := by decide +kernel
theorem dX10_addTarget_93 : decode cX10_addTarget 93 = .ok (.iload_n 1, 1) := by decide +kernel
theorem dX10_addTarget_94 : decode cX10_addTarget 94 = .ok (.iastore, 1) := by decide +kernel
theorem dX10_addTarget_95 : decode cX10_addTarget 95 = .ok (.aload_n 0, 1) := by decide +kernel
theorem dX10_addTarget_96 : decode cX10_addTarget 96 = .ok (.getfield 9, 3) := by decide +kernel
theorem dX10_addTarget_99 : decode cX10_addTarget 99 = .ok (.bipush 6, 2) := by decide +kernel
theorem dX10_addTarget_101 : decode cX10_addTarget 101 = .ok (.dup2, 1) := by decide +kernel
theorem dX10_addTarget_102 : decode cX10_addTarget 102 = .ok (.iaload, 1) := by decide +kernel
theorem dX10_addTarget_103 : decode cX10_addTarget 103 = .ok (.iconst 1, 1) := by decide +kernel
theorem dX10_addTarget_104 : decode cX10_addTarget 104 = .ok (.iadd, 1) := by decide +kernel
theorem dX10_addTarget_105 : decode cX10_addTarget 105 = .ok (.iastore, 1) := by decide +kernel
theorem dX10_addTarget_106 : decode cX10_addTarget 106 = .ok (.aload_n 0, 1) := by decide +kernel
theorem dX10_addTarget_107 : decode cX10_addTarget 107 = .ok (.getfield 9, 3) := by decide +kernel
theorem dX10_addTarget_110 : decode cX10_addTarget 110 = .ok (.bipush 6, 2) := by decide +kernel
theorem dX10_addTarget_112 : decode cX10_addTarget 112 = .ok (.iaload, 1) := by decide +kernel
theorem dX10_addTarget_113 : decode cX10_addTarget 113 = .ok (.ireturn, 1) := by decide +kernel
theorem dX10_targetAt_0 : decode cX10_targetAt 0 = .ok (.aload_n 0, 1) := by decide +kernel
theorem dX10_targetAt_1 : decode cX10_targetAt 1 = .ok (.aload_n 0, 1) := by decide +kernel
theorem dX10_targetAt_2 : decode cX10_targetAt 2 = .ok (.getfield 9, 3) := by decide +kernel
theorem dX10_targetAt_5 : decode cX10_targetAt 5 = .ok (.iconst 4, 1) := by decide +kernel
theorem dX10_targetAt_6 : decode cX10_targetAt 6 = .ok (.iaload, 1) := by decide +kernel
theorem dX10_targetAt_7 : decode cX10_targetAt 7 = .ok (.ifCond .eq 20, 3) := by decide +kernel
theorem dX10_targetAt_10 : decode cX10_targetAt 10 = .ok (.iload_n 1, 1) := by decide +kernel
theorem dX10_targetAt_11 : decode cX10_targetAt 11 = .ok (.iconst 0, 1) := by decide +kernel
theorem dX10_targetAt_12 : decode cX10_targetAt 12 = .ok (.aload_n 0, 1) := by decide +kernel
theorem dX10_targetAt_13 : decode cX10_targetAt 13 = .ok (.getfield 9, 3) := by decide +kernel
theorem dX10_targetAt_16 : decode cX10_targetAt 16 = .ok (.bipush 6, 2) := by decide +kernel
theorem dX10_targetAt_18 : decode cX10_targetAt 18 = .ok (.iaload, 1) := by decide +kernel
theorem dX10_targetAt_19 : decode cX10_targetAt 19 = .ok (.iconst 1, 1) := by decide +kernel
theorem dX10_targetAt_20 : decode cX10_targetAt 20 = .ok (.isub, 1) := by decide +kernel
theorem dX10_targetAt_21 : decode cX10_targetAt 21 = .ok (.invokestatic 47, 3) := by decide +kernel
theorem dX10_targetAt_24 : decode cX10_targetAt 24 = .ok (.ifCond .ne 7, 3) := by decide +kernel
theorem dX10_targetAt_27 : decode cX10_targetAt 27 = .ok (.iconst 1, 1) := by decide +kernel
theorem dX10_targetAt_28 : decode cX10_targetAt 28 = .ok (.goto 4, 3) := by decide +kernel
theorem dX10_targetAt_31 : decode cX10_targetAt 31 = .ok (.iconst 0, 1) := by decide +kernel
theorem dX10_targetAt_32 : decode cX10_targetAt 32 = .ok (.iconst 1, 1) := by decide +kernel
theorem dX10_targetAt_33 : decode cX10_targetAt 33 = .ok (.invokevirtual 51, 3) := by decide +kernel
theorem dX10_targetAt_36 : decode cX10_targetAt 36 = .ok (.ifCond .eq 7, 3) := by decide +kernel
theorem dX10_targetAt_39 : decode cX10_targetAt 39 = .ok (.iconst 0, 1) := by decide +kernel
theorem dX10_targetAt_40 : decode cX10_targetAt 40 = .ok (.goto 12, 3) := by decide +kernel
theorem dX10_targetAt_43 : decode cX10_targetAt 43 = .ok (.aload_n 0, 1) := by decide +kernel
theorem dX10_targetAt_44 : decode cX10_targetAt 44 = .ok (.getfield 9, 3) := by decide +kernel
theorem dX10_targetAt_47 : decode cX10_targetAt 47 = .ok (.bipush 40, 2) := by decide +kernel
theorem dX10_targetAt_49 : decode cX10_targetAt 49 = .ok (.iload_n 1, 1) := by decide +kernel
theorem dX10_targetAt_50 : decode cX10_targetAt 50 = .ok (.iadd, 1) := by decide +kernel
theorem dX10_targetAt_51 : decode cX10_targetAt 51 = .ok (.iaload, 1) := by decide +kernel
theorem dX10_targetAt_52 : decode cX10_targetAt 52 = .ok (.ireturn, 1) := by decide +kernel
theorem dX10_goes_0 : decode cX10_goes 0 = .ok (.aload_n 0, 1) := by decide +kernel
theorem dX10_goes_1 : decode cX10_goes 1 = .ok (.invokevirtual 96, 3) := by decide +kernel
theorem dX10_goes_4 : decode cX10_goes 4 = .ok (.aload_n 0, 1) := by decide +kernel
theorem dX10_goes_5 : decode cX10_goes 5 = .ok (.iconst 0, 1) := by decide +kernel
theorem dX10_goes_6 : decode cX10_goes 6 = .ok (.putfield 143, 3) := by decide +kernel
theorem dX10_goes_9 : decode cX10_goes 9 = .ok (.aload_n 0, 1) := by decide +kernel
theorem dX10_goes_10 : decode cX10_goes 10 = .ok (.iconst 0, 1) := by decide +kernel
theorem dX10_goes_11 : decode cX10_goes 11 = .ok (.putfield 146, 3) := by decide +kernel
theorem dX10_goes_14 : decode cX10_goes 14 = .ok (.aload_n 0, 1) := by decide +kernel
theorem dX10_goes_15 : decode cX10_goes 15 = .ok (.iconst 0, 1) := by decide +kernel
theorem dX10_goes_16 : decode cX10_goes 16 = .ok (.putfield 149, 3) := by decide +kernel
theorem dX10_goes_19 : decode cX10_goes 19 = .ok (.iconst 0, 1) := by decide +kernel
theorem dX10_goes_20 : decode cX10_goes 20 = .ok (.istore_n 1, 1) := by decide +kernel
theorem dX10_goes_21 : decode cX10_goes 21 = .ok (.aload_n 0, 1) := by decide +kernel
theorem dX10_goes_22 : decode cX10_goes 22 = .ok (.getfield 9, 3) := by decide +kernel
theorem dX10_goes_25 : decode cX10_goes 25 = .ok (.iconst 5, 1) := by decide +kernel
theorem dX10_goes_26 : decode cX10_goes 26 = .ok (.iaload, 1) := by decide +kernel
theorem dX10_goes_27 : decode cX10_goes 27 = .ok (.istore_n 2, 1) := by decide +kernel
theorem dX10_goes_28 : decode cX10_goes 28 = .ok (.aload_n 0, 1) := by decide +kernel
theorem dX10_goes_29 : decode cX10_goes 29 = .ok (.getfield 9, 3) := by decide +kernel
theorem dX10_goes_32 : decode cX10_goes 32 = .ok (.iconst 4, 1) := by decide +kernel
theorem dX10_goes_33 : decode cX10_goes 33 = .ok (.iaload, 1) := by decide +kernel
theorem dX10_goes_34 : decode cX10_goes 34 = .ok (.iconst 1, 1) := by decide +kernel
theorem dX10_goes_35 : decode cX10_goes 35 = .ok (.if_icmp .ne 138, 3) := by decide +kernel
theorem dX10_goes_38 : decode cX10_goes 38 = .ok (.iload_n 2, 1) := by decide +kernel
theorem dX10_goes_39 : decode cX10_goes 39 = .ok (.aload_n 0, 1) := by decide +kernel
theorem dX10_goes_40 : decode cX10_goes 40 = .ok (.getfield 9, 3) := by decide +kernel
theorem dX10_goes_43 : decode cX10_goes 43 = .ok (.iconst 0, 1) := by decide +kernel
theorem dX10_goes_44 : decode cX10_goes 44 = .ok (.iaload, 1) := by decide +kernel
theorem dX10_goes_45 : decode cX10_goes 45 = .ok (.if_icmp .ge 128, 3) := by decide +kernel
theorem dX10_goes_48 : decode cX10_goes 48 = .ok (.aload_n 0, 1) := by decide +kernel
theorem dX10_goes_49 : decode cX10_goes 49 = .ok (.getfield 143, 3) := by decide +kernel
theorem dX10_goes_52 : decode cX10_goes 52 = .ok (.aload_n 0, 1) := by decide +kernel
theorem dX10_goes_53 : decode cX10_goes 53 = .ok (.getfield 9, 3) := by decide +kernel
theorem dX10_goes_56 : decode cX10_goes 56 = .ok (.bipush 6, 2) := by decide +kernel
theorem dX10_goes_58 : decode cX10_goes 58 = .ok (.iaload, 1) := by decide +kernel
theorem dX10_goes_59 : decode cX10_goes 59 = .ok (.if_icmp .ge 114, 3) := by decide +kernel
theorem dX10_goes_62 : decode cX10_goes 62 = .ok (.iconst 2, 1) := by decide +kernel
theorem dX10_goes_63 : decode cX10_goes 63 = .ok (.aload_n 0, 1) := by decide +kernel
theorem dX10_goes_64 : decode cX10_goes 64 = .ok (.getfield 21, 3) := by decide +kernel
theorem dX10_goes_67 : decode cX10_goes 67 = .ok (.iload_n 2, 1) := by decide +kernel
theorem dX10_goes_68 : decode cX10_goes 68 = .ok (.iaload, 1) := by decide +kernel
theorem dX10_goes_69 : decode cX10_goes 69 = .ok (.imul, 1) := by decide +kernel
theorem dX10_goes_70 : decode cX10_goes 70 = .ok (.aload_n 0, 1) := by decide +kernel
theorem dX10_goes_71 : decode cX10_goes 71 = .ok (.getfield 9, 3) := by decide +kernel
theorem dX10_goes_74 : decode cX10_goes 74 = .ok (.bipush 40, 2) := by decide +kernel
theorem dX10_goes_76 : decode cX10_goes 76 = .ok (.aload_n 0, 1) := by decide +kernel
theorem dX10_goes_77 : decode cX10_goes 77 = .ok (.getfield 143, 3) := by decide +kernel
theorem dX10_goes_80 : decode cX10_goes 80 = .ok (.iadd, 1) := by decide +kernel
theorem dX10_goes_81 : decode cX10_goes 81 = .ok (.iaload, 1) := by decide +kernel
theorem dX10_goes_82 : decode cX10_goes 82 = .ok (.if_icmp .ge 7, 3) := by decide +kernel
theorem dX10_goes_85 : decode cX10_goes 85 = .ok (.iconst 1, 1) := by decide +kernel
theorem dX10_goes_86 : decode cX10_goes 86 = .ok (.goto 4, 3) := by decide +kernel
theorem dX10_goes_89 : decode cX10_goes 89 = .ok (.iconst 0, 1) := by decide +kernel
theorem dX10_goes_90 : decode cX10_goes 90 = .ok (.istore_n 3, 1) := by decide +kernel
theorem dX10_goes_91 : decode cX10_goes 91 = .ok (.iload_n 3, 1) := by decide +kernel
theorem dX10_goes_92 : decode cX10_goes 92 = .ok (.ifCond .eq 9, 3) := by decide +kernel
theorem dX10_goes_95 : decode cX10_goes 95 = .ok (.iload_n 1, 1) := by decide +kernel
theorem dX10_goes_96 : decode cX10_goes 96 = .ok (.iconst 1, 1) := by decide +kernel
theorem dX10_goes_97 : decode cX10_goes 97 = .ok (.iadd, 1) := by decide +kernel
theorem dX10_goes_98 : decode cX10_goes 98 = .ok (.goto 4, 3) := by decide +kernel
theorem dX10_goes_101 : decode cX10_goes 101 = .ok (.iconst 0, 1) := by decide +kernel
theorem dX10_goes_102 : decode cX10_goes 102 = .ok (.istore_n 1, 1) := by decide +kernel
theorem dX10_goes_103 : decode cX10_goes 103 = .ok (.aload_n 0, 1) := by decide +kernel
theorem dX10_goes_104 : decode cX10_goes 104 = .ok (.dup, 1) := by decide +kernel
theorem dX10_goes_105 : decode cX10_goes 105 = .ok (.getfield 146, 3) := by decide +kernel
theorem dX10_goes_108 : decode cX10_goes 108 = .ok (.iload_n 3, 1) := by decide +kernel
theorem dX10_goes_109 : decode cX10_goes 109 = .ok (.ifCond .eq 7, 3) := by decide +kernel
theorem dX10_goes_112 : decode cX10_goes 112 = .ok (.iconst 1, 1) := by decide +kernel
theorem dX10_goes_113 : decode cX10_goes 113 = .ok (.goto 4, 3) := by decide +kernel
theorem dX10_goes_116 : decode cX10_goes 116 = .ok (.iconst 0, 1) := by decide +kernel
theorem dX10_goes_117 : decode cX10_goes 117 = .ok (.iadd, 1) := by decide +kernel
theorem dX10_goes_118 : decode cX10_goes 118 = .ok (.putfield 146, 3) := by decide +kernel
theorem dX10_goes_121 : decode cX10_goes 121 = .ok (.aload_n 0, 1) := by decide +kernel
theorem dX10_goes_122 : decode cX10_goes 122 = .ok (.dup, 1) := by decide +kernel
theorem dX10_goes_123 : decode cX10_goes 123 = .ok (.getfield 149, 3) := by decide +kernel
theorem dX10_goes_126 : decode cX10_goes 126 = .ok (.iload_n 1, 1) := by decide +kernel
theorem dX10_goes_127 : decode cX10_goes 127 = .ok (.iconst 3, 1) := by decide +kernel
theorem dX10_goes_128 : decode cX10_goes 128 = .ok (.if_icmp .ne 7, 3) := by decide +kernel
theorem dX10_goes_131 : decode cX10_goes 131 = .ok (.iconst 1, 1) := by decide +kernel
theorem dX10_goes_132 : decode cX10_goes 132 = .ok (.goto 4, 3) := by decide +kernel
theorem dX10_goes_135 : decode cX10_goes 135 = .ok (.iconst 0, 1) := by decide +kernel
theorem dX10_goes_136 : decode cX10_goes 136 = .ok (.iadd, 1) := by decide +kernel
theorem dX10_goes_137 : decode cX10_goes 137 = .ok (.putfield 149, 3) := by decide +kernel
theorem dX10_goes_140 : decode cX10_goes 140 = .ok (.aload_n 0, 1) := by decide +kernel
theorem dX10_goes_141 : decode cX10_goes 141 = .ok (.dup, 1) := by decide +kernel
theorem dX10_goes_142 : decode cX10_goes 142 = .ok (.getfield 143, 3) := by decide +kernel
theorem dX10_goes_145 : decode cX10_goes 145 = .ok (.iload_n 3, 1) := by decide +kernel
theorem dX10_goes_146 : decode cX10_goes 146 = .ok (.ifCond .eq 8, 3) := by decide +kernel
theorem dX10_goes_149 : decode cX10_goes 149 = .ok (.iload_n 1, 1) := by decide +kernel
theorem dX10_goes_150 : decode cX10_goes 150 = .ok (.iconst 3, 1) := by decide +kernel
theorem dX10_goes_151 : decode cX10_goes 151 = .ok (.if_icmp .ne 7, 3) := by decide +kernel
theorem dX10_goes_154 : decode cX10_goes 154 = .ok (.iconst 1, 1) := by decide +kernel
theorem dX10_goes_155 : decode cX10_goes 155 = .ok (.goto 4, 3) := by decide +kernel
theorem dX10_goes_158 : decode cX10_goes 158 = .ok (.iconst 0, 1) := by decide +kernel
theorem dX10_goes_159 : decode cX10_goes 159 = .ok (.iadd, 1) := by decide +kernel
theorem dX10_goes_160 : decode cX10_goes 160 = .ok (.putfield 143, 3) := by decide +kernel
theorem dX10_goes_163 : decode cX10_goes 163 = .ok (.iload_n 1, 1) := by decide +kernel
theorem dX10_goes_164 : decode cX10_goes 164 = .ok (.iconst 3, 1) := by decide +kernel
theorem dX10_goes_165 : decode cX10_goes 165 = .ok (.irem, 1) := by decide +kernel
theorem dX10_goes_166 : decode cX10_goes 166 = .ok (.istore_n 1, 1) := by decide +kernel
theorem dX10_goes_167 : decode cX10_goes 167 = .ok (.iinc 2 1, 3) := by decide +kernel
theorem dX10_goes_170 : decode cX10_goes 170 = .ok (.goto (-142), 3) := by decide +kernel
theorem dX10_goes_173 : decode cX10_goes 173 = .ok (.aload_n 0, 1) := by decide +kernel
theorem dX10_goes_174 : decode cX10_goes 174 = .ok (.getfield 9, 3) := by decide +kernel
theorem dX10_goes_177 : decode cX10_goes 177 = .ok (.iconst 4, 1) := by decide +kernel
theorem dX10_goes_178 : decode cX10_goes 178 = .ok (.iaload, 1) := by decide +kernel
theorem dX10_goes_179 : decode cX10_goes 179 = .ok (.iconst 1, 1) := by decide +kernel
theorem dX10_goes_180 : decode cX10_goes 180 = .ok (.if_icmp .ne 21, 3) := by decide +kernel
theorem dX10_goes_183 : decode cX10_goes 183 = .ok (.aload_n 0, 1) := by decide +kernel
theorem dX10_goes_184 : decode cX10_goes 184 = .ok (.getfield 143, 3) := by decide +kernel
theorem dX10_goes_187 : decode cX10_goes 187 = .ok (.aload_n 0, 1) := by decide +kernel
theorem dX10_goes_188 : decode cX10_goes 188 = .ok (.getfield 9, 3) := by decide +kernel
theorem dX10_goes_191 : decode cX10_goes 191 = .ok (.bipush 6, 2) := by decide +kernel
theorem dX10_goes_193 : decode cX10_goes 193 = .ok (.iaload, 1) := by decide +kernel
theorem dX10_goes_194 : decode cX10_goes 194 = .ok (.if_icmp .ge 7, 3) := by decide +kernel
theorem dX10_goes_197 : decode cX10_goes 197 = .ok (.iconst 1, 1) := by decide +kernel
theorem dX10_goes_198 : decode cX10_goes 198 = .ok (.goto 4, 3) := by decide +kernel
theorem dX10_goes_201 : decode cX10_goes 201 = .ok (.iconst 0, 1) := by decide +kernel
theorem dX10_goes_202 : decode cX10_goes 202 = .ok (.ireturn, 1) := by decide +kernel
theorem dX10_dueEntry_0 : decode cX10_dueEntry 0 = .ok (.aload_n 0, 1) := by decide +kernel
theorem dX10_dueEntry_1 : decode cX10_dueEntry 1 = .ok (.aload_n 0, 1) := by decide +kernel
theorem dX10_dueEntry_2 : decode cX10_dueEntry 2 = .ok (.invokevirtual 152, 3) := by decide +kernel
theorem dX10_dueEntry_5 : decode cX10_dueEntry 5 = .ok (.ifCond .ne 7, 3) := by decide +kernel
theorem dX10_dueEntry_8 : decode cX10_dueEntry 8 = .ok (.iconst 1, 1) := by decide +kernel
theorem dX10_dueEntry_9 : decode cX10_dueEntry 9 = .ok (.goto 4, 3) := by decide +kernel
theorem dX10_dueEntry_12 : decode cX10_dueEntry 12 = .ok (.iconst 0, 1) := by decide +kernel
theorem dX10_dueEntry_13 : decode cX10_dueEntry 13 = .ok (.iconst 1, 1) := by decide +kernel
theorem dX10_dueEntry_14 : decode cX10_dueEntry 14 = .ok (.invokevirtual 51, 3) := by decide +kernel
theorem dX10_dueEntry_17 : decode cX10_dueEntry 17 = .ok (.ifCond .eq 7, 3) := by decide +kernel
theorem dX10_dueEntry_20 : decode cX10_dueEntry 20 = .ok (.iconst 0, 1) := by decide +kernel
theorem dX10_dueEntry_21 : decode cX10_dueEntry 21 = .ok (.goto 7, 3) := by decide +kernel
theorem dX10_dueEntry_24 : decode cX10_dueEntry 24 = .ok (.aload_n 0, 1) := by decide +kernel
theorem dX10_dueEntry_25 : decode cX10_dueEntry 25 = .ok (.getfield 143, 3) := by decide +kernel
theorem dX10_dueEntry_28 : decode cX10_dueEntry 28 = .ok (.ireturn, 1) := by decide +kernel
theorem dX10_missedDays_0 : decode cX10_missedDays 0 = .ok (.aload_n 0, 1) := by decide +kernel
theorem dX10_missedDays_1 : decode cX10_missedDays 1 = .ok (.iconst 0, 1) := by decide +kernel
theorem dX10_missedDays_2 : decode cX10_missedDays 2 = .ok (.putfield 31, 3) := by decide +kernel
theorem dX10_missedDays_5 : decode cX10_missedDays 5 = .ok (.aload_n 0, 1) := by decide +kernel
theorem dX10_missedDays_6 : decode cX10_missedDays 6 = .ok (.invokevirtual 152, 3) := by decide +kernel
theorem dX10_missedDays_9 : decode cX10_missedDays 9 = .ok (.istore_n 1, 1) := by decide +kernel
theorem dX10_missedDays_10 : decode cX10_missedDays 10 = .ok (.aload_n 0, 1) := by decide +kernel
theorem dX10_missedDays_11 : decode cX10_missedDays 11 = .ok (.getfield 146, 3) := by decide +kernel
theorem dX10_missedDays_14 : decode cX10_missedDays 14 = .ok (.ireturn, 1) := by decide +kernel
theorem dX10_droppedEntries_0 : decode cX10_droppedEntries 0 = .ok (.aload_n 0, 1) := by decide +kernel
theorem dX10_droppedEntries_1 : decode cX10_droppedEntries 1 = .ok (.iconst 0, 1) := by decide +kernel
theorem dX10_droppedEntries_2 : decode cX10_droppedEntries 2 = .ok (.putfield 31, 3) := by decide +kernel
theorem dX10_droppedEntries_5 : decode cX10_droppedEntries 5 = .ok (.aload_n 0, 1) := by decide +kernel
theorem dX10_droppedEntries_6 : decode cX10_droppedEntries 6 = .ok (.invokevirtual 152, 3) := by decide +kernel
theorem dX10_droppedEntries_9 : decode cX10_droppedEntries 9 = .ok (.istore_n 1, 1) := by decide +kernel
theorem dX10_droppedEntries_10 : decode cX10_droppedEntries 10 = .ok (.aload_n 0, 1) := by decide +kernel
theorem dX10_droppedEntries_11 : decode cX10_droppedEntries 11 = .ok (.getfield 149, 3) := by decide +kernel
theorem dX10_droppedEntries_14 : decode cX10_droppedEntries 14 = .ok (.ireturn, 1) := by decide +kernel
theorem dX10_planEnd_0 : decode cX10_planEnd 0 = .ok (.aload_n 0, 1) := by decide +kernel
theorem dX10_planEnd_1 : decode cX10_planEnd 1 = .ok (.aload_n 0, 1) := by decide +kernel
theorem dX10_planEnd_2 : decode cX10_planEnd 2 = .ok (.invokevirtual 152, 3) := by decide +kernel
theorem dX10_planEnd_5 : decode cX10_planEnd 5 = .ok (.ifCond .ne 7, 3) := by decide +kernel
theorem dX10_planEnd_8 : decode cX10_planEnd 8 = .ok (.iconst 1, 1) := by decide +kernel
theorem dX10_planEnd_9 : decode cX10_planEnd 9 = .ok (.goto 4, 3) := by decide +kernel
theorem dX10_planEnd_12 : decode cX10_planEnd 12 = .ok (.iconst 0, 1) := by decide +kernel
theorem dX10_planEnd_13 : decode cX10_planEnd 13 = .ok (.iconst 1, 1) := by decide +kernel
theorem dX10_planEnd_14 : decode cX10_planEnd 14 = .ok (.invokevirtual 51, 3) := by decide +kernel
theorem dX10_planEnd_17 : decode cX10_planEnd 17 = .ok (.ifCond .eq 7, 3) := by decide +kernel
theorem dX10_planEnd_20 : decode cX10_planEnd 20 = .ok (.iconst 0, 1) := by decide +kernel
theorem dX10_planEnd_21 : decode cX10_planEnd 21 = .ok (.goto 24, 3) := by decide +kernel
theorem dX10_planEnd_24 : decode cX10_planEnd 24 = .ok (.aload_n 0, 1) := by decide +kernel
theorem dX10_planEnd_25 : decode cX10_planEnd 25 = .ok (.getfield 9, 3) := by decide +kernel
theorem dX10_planEnd_28 : decode cX10_planEnd 28 = .ok (.iconst 0, 1) := by decide +kernel
theorem dX10_planEnd_29 : decode cX10_planEnd 29 = .ok (.iaload, 1) := by decide +kernel
theorem dX10_planEnd_30 : decode cX10_planEnd 30 = .ok (.aload_n 0, 1) := by decide +kernel
theorem dX10_planEnd_31 : decode cX10_planEnd 31 = .ok (.getfield 9, 3) := by decide +kernel
theorem dX10_planEnd_34 : decode cX10_planEnd 34 = .ok (.bipush 6, 2) := by decide +kernel
theorem dX10_planEnd_36 : decode cX10_planEnd 36 = .ok (.iaload, 1) := by decide +kernel
theorem dX10_planEnd_37 : decode cX10_planEnd 37 = .ok (.iadd, 1) := by decide +kernel
theorem dX10_planEnd_38 : decode cX10_planEnd 38 = .ok (.iconst 1, 1) := by decide +kernel
theorem dX10_planEnd_39 : decode cX10_planEnd 39 = .ok (.isub, 1) := by decide +kernel
theorem dX10_planEnd_40 : decode cX10_planEnd 40 = .ok (.aload_n 0, 1) := by decide +kernel
theorem dX10_planEnd_41 : decode cX10_planEnd 41 = .ok (.getfield 143, 3) := by decide +kernel
theorem dX10_planEnd_44 : decode cX10_planEnd 44 = .ok (.isub, 1) := by decide +kernel
theorem dX10_planEnd_45 : decode cX10_planEnd 45 = .ok (.ireturn, 1) := by decide +kernel
theorem dX10_isPlanOver_0 : decode cX10_isPlanOver 0 = .ok (.aload_n 0, 1) := by decide +kernel
theorem dX10_isPlanOver_1 : decode cX10_isPlanOver 1 = .ok (.iconst 0, 1) := by decide +kernel
theorem dX10_isPlanOver_2 : decode cX10_isPlanOver 2 = .ok (.putfield 31, 3) := by decide +kernel
theorem dX10_isPlanOver_5 : decode cX10_isPlanOver 5 = .ok (.aload_n 0, 1) := by decide +kernel
theorem dX10_isPlanOver_6 : decode cX10_isPlanOver 6 = .ok (.invokevirtual 152, 3) := by decide +kernel
theorem dX10_isPlanOver_9 : decode cX10_isPlanOver 9 = .ok (.ifCond .ne 17, 3) := by decide +kernel
theorem dX10_isPlanOver_12 : decode cX10_isPlanOver 12 = .ok (.aload_n 0, 1) := by decide +kernel
theorem dX10_isPlanOver_13 : decode cX10_isPlanOver 13 = .ok (.getfield 9, 3) := by decide +kernel
theorem dX10_isPlanOver_16 : decode cX10_isPlanOver 16 = .ok (.iconst 4, 1) := by decide +kernel
theorem dX10_isPlanOver_17 : decode cX10_isPlanOver 17 = .ok (.iaload, 1) := by decide +kernel
theorem dX10_isPlanOver_18 : decode cX10_isPlanOver 18 = .ok (.iconst 1, 1) := by decide +kernel
theorem dX10_isPlanOver_19 : decode cX10_isPlanOver 19 = .ok (.if_icmp .ne 7, 3) := by decide +kernel
theorem dX10_isPlanOver_22 : decode cX10_isPlanOver 22 = .ok (.iconst 1, 1) := by decide +kernel
theorem dX10_isPlanOver_23 : decode cX10_isPlanOver 23 = .ok (.goto 4, 3) := by decide +kernel
theorem dX10_isPlanOver_26 : decode cX10_isPlanOver 26 = .ok (.iconst 0, 1) := by decide +kernel
theorem dX10_isPlanOver_27 : decode cX10_isPlanOver 27 = .ok (.ireturn, 1) := by decide +kernel
theorem dX10_told_0 : decode cX10_told 0 = .ok (.aload_n 0, 1) := by decide +kernel
theorem dX10_told_1 : decode cX10_told 1 = .ok (.invokevirtual 78, 3) := by decide +kernel
theorem dX10_told_4 : decode cX10_told 4 = .ok (.iconst 0, 1) := by decide +kernel
theorem dX10_told_5 : decode cX10_told 5 = .ok (.istore_n 2, 1) := by decide +kernel
theorem dX10_told_6 : decode cX10_told 6 = .ok (.iconst 0, 1) := by decide +kernel
theorem dX10_told_7 : decode cX10_told 7 = .ok (.istore_n 3, 1) := by decide +kernel
theorem dX10_told_8 : decode cX10_told 8 = .ok (.iconst 0, 1) := by decide +kernel
theorem dX10_told_9 : decode cX10_told 9 = .ok (.istore 4, 2) := by decide +kernel
theorem dX10_told_11 : decode cX10_told 11 = .ok (.iload 4, 2) := by decide +kernel
theorem dX10_told_13 : decode cX10_told 13 = .ok (.aload_n 0, 1) := by decide +kernel
theorem dX10_told_14 : decode cX10_told 14 = .ok (.getfield 9, 3) := by decide +kernel
theorem dX10_told_17 : decode cX10_told 17 = .ok (.iconst 2, 1) := by decide +kernel
theorem dX10_told_18 : decode cX10_told 18 = .ok (.iaload, 1) := by decide +kernel
theorem dX10_told_19 : decode cX10_told 19 = .ok (.if_icmp .ge 51, 3) := by decide +kernel
theorem dX10_told_22 : decode cX10_told 22 = .ok (.aload_n 0, 1) := by decide +kernel
theorem dX10_told_23 : decode cX10_told 23 = .ok (.getfield 9, 3) := by decide +kernel
theorem dX10_told_26 : decode cX10_told 26 = .ok (.aload_n 0, 1) := by decide +kernel
theorem dX10_told_27 : decode cX10_told 27 = .ok (.iload 4, 2) := by decide +kernel
theorem dX10_told_29 : decode cX10_told 29 = .ok (.invokevirtual 75, 3) := by decide +kernel
theorem dX10_told_32 : decode cX10_told 32 = .ok (.iconst 1, 1) := by decide +kernel
theorem dX10_told_33 : decode cX10_told 33 = .ok (.iadd, 1) := by decide +kernel
theorem dX10_told_34 : decode cX10_told 34 = .ok (.iaload, 1) := by decide +kernel
theorem dX10_told_35 : decode cX10_told 35 = .ok (.iload_n 1, 1) := by decide +kernel
theorem dX10_told_36 : decode cX10_told 36 = .ok (.if_icmp .ne 28, 3) := by decide +kernel
theorem dX10_told_39 : decode cX10_told 39 = .ok (.iinc 2 1, 3) := by decide +kernel
theorem dX10_told_42 : decode cX10_told 42 = .ok (.aload_n 0, 1) := by decide +kernel
theorem dX10_told_43 : decode cX10_told 43 = .ok (.iload 4, 2) := by decide +kernel
theorem dX10_told_45 : decode cX10_told 45 = .ok (.invokevirtual 81, 3) := by decide +kernel
theorem dX10_told_48 : decode cX10_told 48 = .ok (.iload_n 3, 1) := by decide +kernel
theorem dX10_told_49 : decode cX10_told 49 = .ok (.aload_n 0, 1) := by decide +kernel
theorem dX10_told_50 : decode cX10_told 50 = .ok (.getfield 9, 3) := by decide +kernel
theorem dX10_told_53 : decode cX10_told 53 = .ok (.aload_n 0, 1) := by decide +kernel
theorem dX10_told_54 : decode cX10_told 54 = .ok (.iload 4, 2) := by decide +kernel
theorem dX10_told_56 : decode cX10_told 56 = .ok (.invokevirtual 75, 3) := by decide +kernel
theorem dX10_told_59 : decode cX10_told 59 = .ok (.iconst 2, 1) := by decide +kernel
theorem dX10_told_60 : decode cX10_told 60 = .ok (.iadd, 1) := by decide +kernel
theorem dX10_told_61 : decode cX10_told 61 = .ok (.iaload, 1) := by decide +kernel
theorem dX10_told_62 : decode cX10_told 62 = .ok (.iadd, 1) := by decide +kernel
theorem dX10_told_63 : decode cX10_told 63 = .ok (.istore_n 3, 1) := by decide +kernel
theorem dX10_told_64 : decode cX10_told 64 = .ok (.iinc 4 1, 3) := by decide +kernel
theorem dX10_told_67 : decode cX10_told 67 = .ok (.goto (-56), 3) := by decide +kernel
theorem dX10_told_70 : decode cX10_told 70 = .ok (.iconst 1, 1) := by decide +kernel
theorem dX10_told_71 : decode cX10_told 71 = .ok (.istore 4, 2) := by decide +kernel
theorem dX10_told_73 : decode cX10_told 73 = .ok (.iconst 2, 1) := by decide +kernel
theorem dX10_told_74 : decode cX10_told 74 = .ok (.istore 5, 2) := by decide +kernel
theorem dX10_told_76 : decode cX10_told 76 = .ok (.iload 5, 2) := by decide +kernel
theorem dX10_told_78 : decode cX10_told 78 = .ok (.iconst 5, 1) := by decide +kernel
theorem dX10_told_79 : decode cX10_told 79 = .ok (.if_icmp .gt 35, 3) := by decide +kernel
theorem dX10_told_82 : decode cX10_told 82 = .ok (.aload_n 0, 1) := by decide +kernel
theorem dX10_told_83 : decode cX10_told 83 = .ok (.getfield 24, 3) := by decide +kernel
theorem dX10_told_86 : decode cX10_told 86 = .ok (.iload 5, 2) := by decide +kernel
theorem dX10_told_88 : decode cX10_told 88 = .ok (.iaload, 1) := by decide +kernel
theorem dX10_told_89 : decode cX10_told 89 = .ok (.aload_n 0, 1) := by decide +kernel
theorem dX10_told_90 : decode cX10_told 90 = .ok (.getfield 24, 3) := by decide +kernel
theorem dX10_told_93 : decode cX10_told 93 = .ok (.iload 4, 2) := by decide +kernel
theorem dX10_told_95 : decode cX10_told 95 = .ok (.iaload, 1) := by decide +kernel
theorem dX10_told_96 : decode cX10_told 96 = .ok (.if_icmp .le 8, 3) := by decide +kernel
theorem dX10_told_99 : decode cX10_told 99 = .ok (.iload 5, 2) := by decide +kernel
theorem dX10_told_101 : decode cX10_told 101 = .ok (.goto 5, 3) := by decide +kernel
theorem dX10_told_104 : decode cX10_told 104 = .ok (.iload 4, 2) := by decide +kernel
theorem dX10_told_106 : decode cX10_told 106 = .ok (.istore 4, 2) := by decide +kernel
theorem dX10_told_108 : decode cX10_told 108 = .ok (.iinc 5 1, 3) := by decide +kernel
theorem dX10_told_111 : decode cX10_told 111 = .ok (.goto (-35), 3) := by decide +kernel
theorem dX10_told_114 : decode cX10_told 114 = .ok (.iload_n 1, 1) := by decide +kernel
theorem dX10_told_115 : decode cX10_told 115 = .ok (.aload_n 0, 1) := by decide +kernel
theorem dX10_told_116 : decode cX10_told 116 = .ok (.getfield 9, 3) := by decide +kernel
theorem dX10_told_119 : decode cX10_told 119 = .ok (.iconst 0, 1) := by decide +kernel
theorem dX10_told_120 : decode cX10_told 120 = .ok (.iaload, 1) := by decide +kernel
theorem dX10_told_121 : decode cX10_told 121 = .ok (.if_icmp .le 8, 3) := by decide +kernel
theorem dX10_told_124 : decode cX10_told 124 = .ok (.bipush 45, 2) := by decide +kernel
theorem dX10_told_126 : decode cX10_told 126 = .ok (.goto 27, 3) := by decide +kernel
theorem dX10_told_129 : decode cX10_told 129 = .ok (.iload_n 2, 1) := by decide +kernel
theorem dX10_told_130 : decode cX10_told 130 = .ok (.ifCond .ne 8, 3) := by decide +kernel
theorem dX10_told_133 : decode cX10_told 133 = .ok (.bipush 46, 2) := by decide +kernel
theorem dX10_told_135 : decode cX10_told 135 = .ok (.goto 18, 3) := by decide +kernel
theorem dX10_told_138 : decode cX10_told 138 = .ok (.iload_n 3, 1) := by decide +kernel
theorem dX10_told_139 : decode cX10_told 139 = .ok (.ifCond .ne 8, 3) := by decide +kernel
theorem dX10_told_142 : decode cX10_told 142 = .ok (.bipush 48, 2) := by decide +kernel
theorem dX10_told_144 : decode cX10_told 144 = .ok (.goto 9, 3) := by decide +kernel
theorem dX10_told_147 : decode cX10_told 147 = .ok (.bipush 48, 2) := by decide +kernel
theorem dX10_told_149 : decode cX10_told 149 = .ok (.iload 4, 2) := by decide +kernel
theorem dX10_told_151 : decode cX10_told 151 = .ok (.iadd, 1) := by decide +kernel
theorem dX10_told_152 : decode cX10_told 152 = .ok (.i2c, 1) := by decide +kernel
theorem dX10_told_153 : decode cX10_told 153 = .ok (.ireturn, 1) := by decide +kernel
theorem dX10_writeWeek_0 : decode cX10_writeWeek 0 = .ok (.aload_n 0, 1) := by decide +kernel
theorem dX10_writeWeek_1 : decode cX10_writeWeek 1 = .ok (.aload_n 0, 1) := by decide +kernel
theorem dX10_writeWeek_2 : decode cX10_writeWeek 2 = .ok (.iload_n 1, 1) := by decide +kernel
theorem dX10_writeWeek_3 : decode cX10_writeWeek 3 = .ok (.invokevirtual 58, 3) := by decide +kernel
theorem dX10_writeWeek_6 : decode cX10_writeWeek 6 = .ok (.iconst 1, 1) := by decide +kernel
theorem dX10_writeWeek_7 : decode cX10_writeWeek 7 = .ok (.invokevirtual 51, 3) := by decide +kernel
theorem dX10_writeWeek_10 : decode cX10_writeWeek 10 = .ok (.ifCond .eq 5, 3) := by decide +kernel
theorem dX10_writeWeek_13 : decode cX10_writeWeek 13 = .ok (.iconst 0, 1) := by decide +kernel
theorem dX10_writeWeek_14 : decode cX10_writeWeek 14 = .ok (.ireturn, 1) := by decide +kernel
theorem dX10_writeWeek_15 : decode cX10_writeWeek 15 = .ok (.iconst 0, 1) := by decide +kernel
theorem dX10_writeWeek_16 : decode cX10_writeWeek 16 = .ok (.istore_n 2, 1) := by decide +kernel
theorem dX10_writeWeek_17 : decode cX10_writeWeek 17 = .ok (.iload_n 2, 1) := by decide +kernel
theorem dX10_writeWeek_18 : decode cX10_writeWeek 18 = .ok (.bipush 13, 2) := by decide +kernel
theorem dX10_writeWeek_20 : decode cX10_writeWeek 20 = .ok (.if_icmp .ge 36, 3) := by decide +kernel
theorem dX10_writeWeek_23 : decode cX10_writeWeek 23 = .ok (.aload_n 0, 1) := by decide +kernel
theorem dX10_writeWeek_24 : decode cX10_writeWeek 24 = .ok (.getfield 27, 3) := by decide +kernel
theorem dX10_writeWeek_27 : decode cX10_writeWeek 27 = .ok (.iload_n 2, 1) := by decide +kernel
theorem dX10_writeWeek_28 : decode cX10_writeWeek 28 = .ok (.iload_n 2, 1) := by decide +kernel
theorem dX10_writeWeek_29 : decode cX10_writeWeek 29 = .ok (.iconst 2, 1) := by decide +kernel
theorem dX10_writeWeek_30 : decode cX10_writeWeek 30 = .ok (.irem, 1) := by decide +kernel
theorem dX10_writeWeek_31 : decode cX10_writeWeek 31 = .ok (.iconst 1, 1) := by decide +kernel
theorem dX10_writeWeek_32 : decode cX10_writeWeek 32 = .ok (.if_icmp .ne 8, 3) := by decide +kernel
theorem dX10_writeWeek_35 : decode cX10_writeWeek 35 = .ok (.bipush 32, 2) := by decide +kernel
theorem dX10_writeWeek_37 : decode cX10_writeWeek 37 = .ok (.goto 12, 3) := by decide +kernel
theorem dX10_writeWeek_40 : decode cX10_writeWeek 40 = .ok (.aload_n 0, 1) := by decide +kernel
theorem dX10_writeWeek_41 : decode cX10_writeWeek 41 = .ok (.iload_n 1, 1) := by decide +kernel
theorem dX10_writeWeek_42 : decode cX10_writeWeek 42 = .ok (.iload_n 2, 1) := by decide +kernel
theorem dX10_writeWeek_43 : decode cX10_writeWeek 43 = .ok (.iconst 2, 1) := by decide +kernel
theorem dX10_writeWeek_44 : decode cX10_writeWeek 44 = .ok (.idiv, 1) := by decide +kernel
theorem dX10_writeWeek_45 : decode cX10_writeWeek 45 = .ok (.iadd, 1) := by decide +kernel
theorem dX10_writeWeek_46 : decode cX10_writeWeek 46 = .ok (.invokevirtual 156, 3) := by decide +kernel
theorem dX10_writeWeek_49 : decode cX10_writeWeek 49 = .ok (.castore, 1) := by decide +kernel
theorem dX10_writeWeek_50 : decode cX10_writeWeek 50 = .ok (.iinc 2 1, 3) := by decide +kernel
theorem dX10_writeWeek_53 : decode cX10_writeWeek 53 = .ok (.goto (-36), 3) := by decide +kernel
theorem dX10_writeWeek_56 : decode cX10_writeWeek 56 = .ok (.aload_n 0, 1) := by decide +kernel
theorem dX10_writeWeek_57 : decode cX10_writeWeek 57 = .ok (.bipush 13, 2) := by decide +kernel
theorem dX10_writeWeek_59 : decode cX10_writeWeek 59 = .ok (.putfield 160, 3) := by decide +kernel
theorem dX10_writeWeek_62 : decode cX10_writeWeek 62 = .ok (.bipush 13, 2) := by decide +kernel
theorem dX10_writeWeek_64 : decode cX10_writeWeek 64 = .ok (.ireturn, 1) := by decide +kernel
theorem dX10_lineAt_0 : decode cX10_lineAt 0 = .ok (.aload_n 0, 1) := by decide +kernel
theorem dX10_lineAt_1 : decode cX10_lineAt 1 = .ok (.iload_n 1, 1) := by decide +kernel
theorem dX10_lineAt_2 : decode cX10_lineAt 2 = .ok (.iconst 0, 1) := by decide +kernel
theorem dX10_lineAt_3 : decode cX10_lineAt 3 = .ok (.aload_n 0, 1) := by decide +kernel
theorem dX10_lineAt_4 : decode cX10_lineAt 4 = .ok (.getfield 160, 3) := by decide +kernel
theorem dX10_lineAt_7 : decode cX10_lineAt 7 = .ok (.iconst 1, 1) := by decide +kernel
theorem dX10_lineAt_8 : decode cX10_lineAt 8 = .ok (.isub, 1) := by decide +kernel
theorem dX10_lineAt_9 : decode cX10_lineAt 9 = .ok (.invokestatic 47, 3) := by decide +kernel
theorem dX10_lineAt_12 : decode cX10_lineAt 12 = .ok (.ifCond .ne 7, 3) := by decide +kernel
theorem dX10_lineAt_15 : decode cX10_lineAt 15 = .ok (.iconst 1, 1) := by decide +kernel
theorem dX10_lineAt_16 : decode cX10_lineAt 16 = .ok (.goto 4, 3) := by decide +kernel
theorem dX10_lineAt_19 : decode cX10_lineAt 19 = .ok (.iconst 0, 1) := by decide +kernel
theorem dX10_lineAt_20 : decode cX10_lineAt 20 = .ok (.iconst 1, 1) := by decide +kernel
theorem dX10_lineAt_21 : decode cX10_lineAt 21 = .ok (.invokevirtual 51, 3) := by decide +kernel
theorem dX10_lineAt_24 : decode cX10_lineAt 24 = .ok (.ifCond .eq 8, 3) := by decide +kernel
theorem dX10_lineAt_27 : decode cX10_lineAt 27 = .ok (.bipush 45, 2) := by decide +kernel
theorem dX10_lineAt_29 : decode cX10_lineAt 29 = .ok (.goto 9, 3) := by decide +kernel
theorem dX10_lineAt_32 : decode cX10_lineAt 32 = .ok (.aload_n 0, 1) := by decide +kernel
theorem dX10_lineAt_33 : decode cX10_lineAt 33 = .ok (.getfield 27, 3) := by decide +kernel
theorem dX10_lineAt_36 : decode cX10_lineAt 36 = .ok (.iload_n 1, 1) := by decide +kernel
theorem dX10_lineAt_37 : decode cX10_lineAt 37 = .ok (.caload, 1) := by decide +kernel
theorem dX10_lineAt_38 : decode cX10_lineAt 38 = .ok (.ireturn, 1) := by decide +kernel
theorem dX10_undo_0 : decode cX10_undo 0 = .ok (.aload_n 0, 1) := by decide +kernel
theorem dX10_undo_1 : decode cX10_undo 1 = .ok (.aload_n 0, 1) := by decide +kernel
theorem dX10_undo_2 : decode cX10_undo 2 = .ok (.getfield 38, 3) := by decide +kernel
theorem dX10_undo_5 : decode cX10_undo 5 = .ok (.ifCond .ne 7, 3) := by decide +kernel
theorem dX10_undo_8 : decode cX10_undo 8 = .ok (.iconst 1, 1) := by decide +kernel
theorem dX10_undo_9 : decode cX10_undo 9 = .ok (.goto 4, 3) := by decide +kernel
theorem dX10_undo_12 : decode cX10_undo 12 = .ok (.iconst 0, 1) := by decide +kernel
theorem dX10_undo_13 : decode cX10_undo 13 = .ok (.iconst 1, 1) := by decide +kernel
theorem dX10_undo_14 : decode cX10_undo 14 = .ok (.invokevirtual 51, 3) := by decide +kernel
theorem dX10_undo_17 : decode cX10_undo 17 = .ok (.ifCond .eq 5, 3) := by decide +kernel
theorem dX10_undo_20 : decode cX10_undo 20 = .ok (.iconst 0, 1) := by decide +kernel
theorem dX10_undo_21 : decode cX10_undo 21 = .ok (.ireturn, 1) := by decide +kernel
theorem dX10_undo_22 : decode cX10_undo 22 = .ok (.iconst 0, 1) := by decide +kernel
theorem dX10_undo_23 : decode cX10_undo 23 = .ok (.istore_n 1, 1) := by decide +kernel
theorem dX10_undo_24 : decode cX10_undo 24 = .ok (.iload_n 1, 1) := by decide +kernel
theorem dX10_undo_25 : decode cX10_undo 25 = .ok (.sipush 830, 3) := by decide +kernel
theorem dX10_undo_28 : decode cX10_undo 28 = .ok (.if_icmp .ge 26, 3) := by decide +kernel
theorem dX10_undo_31 : decode cX10_undo 31 = .ok (.aload_n 0, 1) := by decide +kernel
theorem dX10_undo_32 : decode cX10_undo 32 = .ok (.getfield 9, 3) := by decide +kernel
theorem dX10_undo_35 : decode cX10_undo 35 = .ok (.iload_n 1, 1) := by decide +kernel
theorem dX10_undo_36 : decode cX10_undo 36 = .ok (.aload_n 0, 1) := by decide +kernel
theorem dX10_undo_37 : decode cX10_undo 37 = .ok (.getfield 15, 3) := by decide +kernel
theorem dX10_undo_40 : decode cX10_undo 40 = .ok (.aload_n 0, 1) := by decide +kernel
theorem dX10_undo_41 : decode cX10_undo 41 = .ok (.getfield 35, 3) := by decide +kernel
theorem dX10_undo_44 : decode cX10_undo 44 = .ok (.aaload, 1) := by decide +kernel
theorem dX10_undo_45 : decode cX10_undo 45 = .ok (.iload_n 1, 1) := by decide +kernel
theorem dX10_undo_46 : decode cX10_undo 46 = .ok (.iaload, 1) := by decide +kernel
theorem dX10_undo_47 : decode cX10_undo 47 = .ok (.iastore, 1) := by decide +kernel
theorem dX10_undo_48 : decode cX10_undo 48 = .ok (.iinc 1 1, 3) := by decide +kernel
theorem dX10_undo_51 : decode cX10_undo 51 = .ok (.goto (-27), 3) := by decide +kernel
theorem dX10_undo_54 : decode cX10_undo 54 = .ok (.aload_n 0, 1) := by decide +kernel
theorem dX10_undo_55 : decode cX10_undo 55 = .ok (.aload_n 0, 1) := by decide +kernel
theorem dX10_undo_56 : decode cX10_undo 56 = .ok (.getfield 35, 3) := by decide +kernel
theorem dX10_undo_59 : decode cX10_undo 59 = .ok (.bipush 6, 2) := by decide +kernel
theorem dX10_undo_61 : decode cX10_undo 61 = .ok (.iadd, 1) := by decide +kernel
theorem dX10_undo_62 : decode cX10_undo 62 = .ok (.iconst 1, 1) := by decide +kernel
theorem dX10_undo_63 : decode cX10_undo 63 = .ok (.isub, 1) := by decide +kernel
theorem dX10_undo_64 : decode cX10_undo 64 = .ok (.bipush 6, 2) := by decide +kernel
theorem dX10_undo_66 : decode cX10_undo 66 = .ok (.irem, 1) := by decide +kernel
theorem dX10_undo_67 : decode cX10_undo 67 = .ok (.putfield 35, 3) := by decide +kernel
theorem dX10_undo_70 : decode cX10_undo 70 = .ok (.aload_n 0, 1) := by decide +kernel
theorem dX10_undo_71 : decode cX10_undo 71 = .ok (.dup, 1) := by decide +kernel
theorem dX10_undo_72 : decode cX10_undo 72 = .ok (.getfield 38, 3) := by decide +kernel
theorem dX10_undo_75 : decode cX10_undo 75 = .ok (.iconst 1, 1) := by decide +kernel
theorem dX10_undo_76 : decode cX10_undo 76 = .ok (.isub, 1) := by decide +kernel
theorem dX10_undo_77 : decode cX10_undo 77 = .ok (.putfield 38, 3) := by decide +kernel
theorem dX10_undo_80 : decode cX10_undo 80 = .ok (.aload_n 0, 1) := by decide +kernel
theorem dX10_undo_81 : decode cX10_undo 81 = .ok (.getfield 38, 3) := by decide +kernel
theorem dX10_undo_84 : decode cX10_undo 84 = .ok (.ireturn, 1) := by decide +kernel
theorem dX10_save_0 : decode cX10_save 0 = .ok (.aload_n 0, 1) := by decide +kernel
theorem dX10_save_1 : decode cX10_save 1 = .ok (.iconst 0, 1) := by decide +kernel
theorem dX10_save_2 : decode cX10_save 2 = .ok (.putfield 31, 3) := by decide +kernel
theorem dX10_save_5 : decode cX10_save 5 = .ok (.iconst 0, 1) := by decide +kernel
theorem dX10_save_6 : decode cX10_save 6 = .ok (.istore_n 1, 1) := by decide +kernel
theorem dX10_save_7 : decode cX10_save 7 = .ok (.iload_n 1, 1) := by decide +kernel
theorem dX10_save_8 : decode cX10_save 8 = .ok (.sipush 830, 3) := by decide +kernel
theorem dX10_save_11 : decode cX10_save 11 = .ok (.if_icmp .ge 21, 3) := by decide +kernel
theorem dX10_save_14 : decode cX10_save 14 = .ok (.aload_n 0, 1) := by decide +kernel
theorem dX10_save_15 : decode cX10_save 15 = .ok (.getfield 18, 3) := by decide +kernel
theorem dX10_save_18 : decode cX10_save 18 = .ok (.iload_n 1, 1) := by decide +kernel
theorem dX10_save_19 : decode cX10_save 19 = .ok (.aload_n 0, 1) := by decide +kernel
theorem dX10_save_20 : decode cX10_save 20 = .ok (.getfield 9, 3) := by decide +kernel
theorem dX10_save_23 : decode cX10_save 23 = .ok (.iload_n 1, 1) := by decide +kernel
theorem dX10_save_24 : decode cX10_save 24 = .ok (.iaload, 1) := by decide +kernel
theorem dX10_save_25 : decode cX10_save 25 = .ok (.iastore, 1) := by decide +kernel
theorem dX10_save_26 : decode cX10_save 26 = .ok (.iinc 1 1, 3) := by decide +kernel
theorem dX10_save_29 : decode cX10_save 29 = .ok (.goto (-22), 3) := by decide +kernel
theorem dX10_save_32 : decode cX10_save 32 = .ok (.aload_n 0, 1) := by decide +kernel
theorem dX10_save_33 : decode cX10_save 33 = .ok (.iconst 1, 1) := by decide +kernel
theorem dX10_save_34 : decode cX10_save 34 = .ok (.putfield 163, 3) := by decide +kernel
theorem dX10_save_37 : decode cX10_save 37 = .ok (.aload_n 0, 1) := by decide +kernel
theorem dX10_save_38 : decode cX10_save 38 = .ok (.getfield 9, 3) := by decide +kernel
theorem dX10_save_41 : decode cX10_save 41 = .ok (.iconst 2, 1) := by decide +kernel
theorem dX10_save_42 : decode cX10_save 42 = .ok (.iaload, 1) := by decide +kernel
theorem dX10_save_43 : decode cX10_save 43 = .ok (.ireturn, 1) := by decide +kernel
theorem dX10_restore_0 : decode cX10_restore 0 = .ok (.aload_n 0, 1) := by decide +kernel
theorem dX10_restore_1 : decode cX10_restore 1 = .ok (.aload_n 0, 1) := by decide +kernel
theorem dX10_restore_2 : decode cX10_restore 2 = .ok (.getfield 163, 3) := by decide +kernel
theorem dX10_restore_5 : decode cX10_restore 5 = .ok (.ifCond .ne 7, 3) := by decide +kernel
theorem dX10_restore_8 : decode cX10_restore 8 = .ok (.iconst 1, 1) := by decide +kernel
theorem dX10_restore_9 : decode cX10_restore 9 = .ok (.goto 4, 3) := by decide +kernel
theorem dX10_restore_12 : decode cX10_restore 12 = .ok (.iconst 0, 1) := by decide +kernel
theorem dX10_restore_13 : decode cX10_restore 13 = .ok (.iconst 1, 1) := by decide +kernel
theorem dX10_restore_14 : decode cX10_restore 14 = .ok (.invokevirtual 51, 3) := by decide +kernel
theorem dX10_restore_17 : decode cX10_restore 17 = .ok (.ifCond .eq 5, 3) := by decide +kernel
theorem dX10_restore_20 : decode cX10_restore 20 = .ok (.iconst 0, 1) := by decide +kernel
theorem dX10_restore_21 : decode cX10_restore 21 = .ok (.ireturn, 1) := by decide +kernel
theorem dX10_restore_22 : decode cX10_restore 22 = .ok (.iconst 0, 1) := by decide +kernel
theorem dX10_restore_23 : decode cX10_restore 23 = .ok (.istore_n 1, 1) := by decide +kernel
theorem dX10_restore_24 : decode cX10_restore 24 = .ok (.iload_n 1, 1) := by decide +kernel
theorem dX10_restore_25 : decode cX10_restore 25 = .ok (.sipush 830, 3) := by decide +kernel
theorem dX10_restore_28 : decode cX10_restore 28 = .ok (.if_icmp .ge 21, 3) := by decide +kernel
theorem dX10_restore_31 : decode cX10_restore 31 = .ok (.aload_n 0, 1) := by decide +kernel
theorem dX10_restore_32 : decode cX10_restore 32 = .ok (.getfield 9, 3) := by decide +kernel
theorem dX10_restore_35 : decode cX10_restore 35 = .ok (.iload_n 1, 1) := by decide +kernel
theorem dX10_restore_36 : decode cX10_restore 36 = .ok (.aload_n 0, 1) := by decide +kernel
theorem dX10_restore_37 : decode cX10_restore 37 = .ok (.getfield 18, 3) := by decide +kernel
theorem dX10_restore_40 : decode cX10_restore 40 = .ok (.iload_n 1, 1) := by decide +kernel
theorem dX10_restore_41 : decode cX10_restore 41 = .ok (.iaload, 1) := by decide +kernel
theorem dX10_restore_42 : decode cX10_restore 42 = .ok (.iastore, 1) := by decide +kernel
theorem dX10_restore_43 : decode cX10_restore 43 = .ok (.iinc 1 1, 3) := by decide +kernel
theorem dX10_restore_46 : decode cX10_restore 46 = .ok (.goto (-22), 3) := by decide +kernel
theorem dX10_restore_49 : decode cX10_restore 49 = .ok (.aload_n 0, 1) := by decide +kernel
theorem dX10_restore_50 : decode cX10_restore 50 = .ok (.iconst 0, 1) := by decide +kernel
theorem dX10_restore_51 : decode cX10_restore 51 = .ok (.putfield 38, 3) := by decide +kernel
theorem dX10_restore_54 : decode cX10_restore 54 = .ok (.aload_n 0, 1) := by decide +kernel
theorem dX10_restore_55 : decode cX10_restore 55 = .ok (.getfield 9, 3) := by decide +kernel
theorem dX10_restore_58 : decode cX10_restore 58 = .ok (.iconst 2, 1) := by decide +kernel
theorem dX10_restore_59 : decode cX10_restore 59 = .ok (.iaload, 1) := by decide +kernel
theorem dX10_restore_60 : decode cX10_restore 60 = .ok (.ireturn, 1) := by decide +kernel
theorem dJx00060_init_a7421_0 : decode cJx00060_init_a7421 0 = .ok (.aload_n 0, 1) := by decide +kernel
theorem dJx00060_init_a7421_1 : decode cJx00060_init_a7421 1 = .ok (.aload_n 1, 1) := by decide +kernel
theorem dJx00060_init_a7421_2 : decode cJx00060_init_a7421 2 = .ok (.invokespecial 7, 3) := by decide +kernel
theorem dJx00060_init_a7421_5 : decode cJx00060_init_a7421 5 = .ok (.return_, 1) := by decide +kernel
theorem dJ9_max_7cf53_0 : decode cJ9_max_7cf53 0 = .ok (.iload_n 0, 1) := by decide +kernel
theorem dJ9_max_7cf53_1 : decode cJ9_max_7cf53 1 = .ok (.iload_n 1, 1) := by decide +kernel
theorem dJ9_max_7cf53_2 : decode cJ9_max_7cf53 2 = .ok (.if_icmp .lt 7, 3) := by decide +kernel
theorem dJ9_max_7cf53_5 : decode cJ9_max_7cf53 5 = .ok (.iload_n 0, 1) := by decide +kernel
theorem dJ9_max_7cf53_6 : decode cJ9_max_7cf53 6 = .ok (.goto 4, 3) := by decide +kernel
theorem dJ9_max_7cf53_9 : decode cJ9_max_7cf53 9 = .ok (.iload_n 1, 1) := by decide +kernel
theorem dJ9_max_7cf53_10 : decode cJ9_max_7cf53 10 = .ok (.ireturn, 1) := by decide +kernel
theorem dJ9_min_7cf53_0 : decode cJ9_min_7cf53 0 = .ok (.iload_n 0, 1) := by decide +kernel
theorem dJ9_min_7cf53_1 : decode cJ9_min_7cf53 1 = .ok (.iload_n 1, 1) := by decide +kernel
theorem dJ9_min_7cf53_2 : decode cJ9_min_7cf53 2 = .ok (.if_icmp .gt 7, 3) := by decide +kernel
theorem dJ9_min_7cf53_5 : decode cJ9_min_7cf53 5 = .ok (.iload_n 0, 1) := by decide +kernel
theorem dJ9_min_7cf53_6 : decode cJ9_min_7cf53 6 = .ok (.goto 4, 3) := by decide +kernel
theorem dJ9_min_7cf53_9 : decode cJ9_min_7cf53 9 = .ok (.iload_n 1, 1) := by decide +kernel
theorem dJ9_min_7cf53_10 : decode cJ9_min_7cf53 10 = .ok (.ireturn, 1) := by decide +kernel
theorem dL_pass_0 : decode cL_pass 0 = .ok (.aload_n 2, 1) := by decide +kernel
theorem dL_pass_1 : decode cL_pass 1 = .ok (.iconst 0, 1) := by decide +kernel
theorem dL_pass_2 : decode cL_pass 2 = .ok (.aload_n 0, 1) := by decide +kernel
theorem dL_pass_3 : decode cL_pass 3 = .ok (.iload_n 1, 1) := by decide +kernel
theorem dL_pass_4 : decode cL_pass 4 = .ok (.invokevirtual 7, 3) := by decide +kernel
theorem dL_pass_7 : decode cL_pass 7 = .ok (.i2l, 1) := by decide +kernel
theorem dL_pass_8 : decode cL_pass 8 = .ok (.lastore, 1) := by decide +kernel
theorem dL_pass_9 : decode cL_pass 9 = .ok (.goto 9, 3) := by decide +kernel
theorem dL_pass_12 : decode cL_pass 12 = .ok (.astore_n 3, 1) := by decide +kernel
theorem dL_pass_13 : decode cL_pass 13 = .ok (.iconst 1, 1) := by decide +kernel
theorem dL_pass_14 : decode cL_pass 14 = .ok (.ireturn, 1) := by decide +kernel
theorem dL_pass_15 : decode cL_pass 15 = .ok (.astore_n 3, 1) := by decide +kernel
theorem dL_pass_16 : decode cL_pass 16 = .ok (.iconst 2, 1) := by decide +kernel
theorem dL_pass_17 : decode cL_pass 17 = .ok (.ireturn, 1) := by decide +kernel
theorem dL_pass_18 : decode cL_pass 18 = .ok (.iconst 0, 1) := by decide +kernel
theorem dL_pass_19 : decode cL_pass 19 = .ok (.ireturn, 1) := by decide +kernel
theorem dL_addTest_0 : decode cL_addTest 0 = .ok (.aload_n 3, 1) := by decide +kernel
theorem dL_addTest_1 : decode cL_addTest 1 = .ok (.iconst 0, 1) := by decide +kernel
theorem dL_addTest_2 : decode cL_addTest 2 = .ok (.aload_n 0, 1) := by decide +kernel
theorem dL_addTest_3 : decode cL_addTest 3 = .ok (.iload_n 1, 1) := by decide +kernel
theorem dL_addTest_4 : decode cL_addTest 4 = .ok (.iload_n 2, 1) := by decide +kernel
theorem dL_addTest_5 : decode cL_addTest 5 = .ok (.invokevirtual 17, 3) := by decide +kernel
theorem dL_addTest_8 : decode cL_addTest 8 = .ok (.i2l, 1) := by decide +kernel
theorem dL_addTest_9 : decode cL_addTest 9 = .ok (.lastore, 1) := by decide +kernel
theorem dL_addTest_10 : decode cL_addTest 10 = .ok (.goto 11, 3) := by decide +kernel
theorem dL_addTest_13 : decode cL_addTest 13 = .ok (.astore 4, 2) := by decide +kernel
theorem dL_addTest_15 : decode cL_addTest 15 = .ok (.iconst 1, 1) := by decide +kernel
theorem dL_addTest_16 : decode cL_addTest 16 = .ok (.ireturn, 1) := by decide +kernel
theorem dL_addTest_17 : decode cL_addTest 17 = .ok (.astore 4, 2) := by decide +kernel
theorem dL_addTest_19 : decode cL_addTest 19 = .ok (.iconst 2, 1) := by decide +kernel
theorem dL_addTest_20 : decode cL_addTest 20 = .ok (.ireturn, 1) := by decide +kernel
theorem dL_addTest_21 : decode cL_addTest 21 = .ok (.iconst 0, 1) := by decide +kernel
theorem dL_addTest_22 : decode cL_addTest 22 = .ok (.ireturn, 1) := by decide +kernel
theorem dL_removeTest_0 : decode cL_removeTest 0 = .ok (.aload_n 2, 1) := by decide +kernel
theorem dL_removeTest_1 : decode cL_removeTest 1 = .ok (.iconst 0, 1) := by decide +kernel
theorem dL_removeTest_2 : decode cL_removeTest 2 = .ok (.aload_n 0, 1) := by decide +kernel
theorem dL_removeTest_3 : decode cL_removeTest 3 = .ok (.iload_n 1, 1) := by decide +kernel
theorem dL_removeTest_4 : decode cL_removeTest 4 = .ok (.invokevirtual 21, 3) := by decide +kernel
theorem dL_removeTest_7 : decode cL_removeTest 7 = .ok (.i2l, 1) := by decide +kernel
theorem dL_removeTest_8 : decode cL_removeTest 8 = .ok (.lastore, 1) := by decide +kernel
theorem dL_removeTest_9 : decode cL_removeTest 9 = .ok (.goto 6, 3) := by decide +kernel
theorem dL_removeTest_12 : decode cL_removeTest 12 = .ok (.astore_n 3, 1) := by decide +kernel
theorem dL_removeTest_13 : decode cL_removeTest 13 = .ok (.iconst 1, 1) := by decide +kernel
theorem dL_removeTest_14 : decode cL_removeTest 14 = .ok (.ireturn, 1) := by decide +kernel
theorem dL_removeTest_15 : decode cL_removeTest 15 = .ok (.iconst 0, 1) := by decide +kernel
theorem dL_removeTest_16 : decode cL_removeTest 16 = .ok (.ireturn, 1) := by decide +kernel
theorem dL_thresholdOn_0 : decode cL_thresholdOn 0 = .ok (.aload_n 2, 1) := by decide +kernel
theorem dL_thresholdOn_1 : decode cL_thresholdOn 1 = .ok (.iconst 0, 1) := by decide +kernel
theorem dL_thresholdOn_2 : decode cL_thresholdOn 2 = .ok (.aload_n 0, 1) := by decide +kernel
theorem dL_thresholdOn_3 : decode cL_thresholdOn 3 = .ok (.iload_n 1, 1) := by decide +kernel
theorem dL_thresholdOn_4 : decode cL_thresholdOn 4 = .ok (.invokevirtual 26, 3) := by decide +kernel
theorem dL_thresholdOn_7 : decode cL_thresholdOn 7 = .ok (.i2l, 1) := by decide +kernel
theorem dL_thresholdOn_8 : decode cL_thresholdOn 8 = .ok (.lastore, 1) := by decide +kernel
theorem dL_thresholdOn_9 : decode cL_thresholdOn 9 = .ok (.goto 6, 3) := by decide +kernel
theorem dL_thresholdOn_12 : decode cL_thresholdOn 12 = .ok (.astore_n 3, 1) := by decide +kernel
theorem dL_thresholdOn_13 : decode cL_thresholdOn 13 = .ok (.iconst 1, 1) := by decide +kernel
theorem dL_thresholdOn_14 : decode cL_thresholdOn 14 = .ok (.ireturn, 1) := by decide +kernel
theorem dL_thresholdOn_15 : decode cL_thresholdOn 15 = .ok (.iconst 0, 1) := by decide +kernel
theorem dL_thresholdOn_16 : decode cL_thresholdOn 16 = .ok (.ireturn, 1) := by decide +kernel
theorem dL_setBound_0 : decode cL_setBound 0 = .ok (.aload_n 3, 1) := by decide +kernel
theorem dL_setBound_1 : decode cL_setBound 1 = .ok (.iconst 0, 1) := by decide +kernel
theorem dL_setBound_2 : decode cL_setBound 2 = .ok (.aload_n 0, 1) := by decide +kernel
theorem dL_setBound_3 : decode cL_setBound 3 = .ok (.iload_n 1, 1) := by decide +kernel
theorem dL_setBound_4 : decode cL_setBound 4 = .ok (.iload_n 2, 1) := by decide +kernel
theorem dL_setBound_5 : decode cL_setBound 5 = .ok (.invokevirtual 29, 3) := by decide +kernel
theorem dL_setBound_8 : decode cL_setBound 8 = .ok (.i2l, 1) := by decide +kernel
theorem dL_setBound_9 : decode cL_setBound 9 = .ok (.lastore, 1) := by decide +kernel
theorem dL_setBound_10 : decode cL_setBound 10 = .ok (.goto 11, 3) := by decide +kernel
theorem dL_setBound_13 : decode cL_setBound 13 = .ok (.astore 4, 2) := by decide +kernel
theorem dL_setBound_15 : decode cL_setBound 15 = .ok (.iconst 1, 1) := by decide +kernel
theorem dL_setBound_16 : decode cL_setBound 16 = .ok (.ireturn, 1) := by decide +kernel
theorem dL_setBound_17 : decode cL_setBound 17 = .ok (.astore 4, 2) := by decide +kernel
theorem dL_setBound_19 : decode cL_setBound 19 = .ok (.iconst 2, 1) := by decide +kernel
theorem dL_setBound_20 : decode cL_setBound 20 = .ok (.ireturn, 1) := by decide +kernel
theorem dL_setBound_21 : decode cL_setBound 21 = .ok (.iconst 0, 1) := by decide +kernel
theorem dL_setBound_22 : decode cL_setBound 22 = .ok (.ireturn, 1) := by decide +kernel
theorem dL_boundOf_0 : decode cL_boundOf 0 = .ok (.aload_n 2, 1) := by decide +kernel
theorem dL_boundOf_1 : decode cL_boundOf 1 = .ok (.iconst 0, 1) := by decide +kernel
theorem dL_boundOf_2 : decode cL_boundOf 2 = .ok (.aload_n 0, 1) := by decide +kernel
theorem dL_boundOf_3 : decode cL_boundOf 3 = .ok (.iload_n 1, 1) := by decide +kernel
theorem dL_boundOf_4 : decode cL_boundOf 4 = .ok (.invokevirtual 32, 3) := by decide +kernel
theorem dL_boundOf_7 : decode cL_boundOf 7 = .ok (.i2l, 1) := by decide +kernel
theorem dL_boundOf_8 : decode cL_boundOf 8 = .ok (.lastore, 1) := by decide +kernel
theorem dL_boundOf_9 : decode cL_boundOf 9 = .ok (.goto 6, 3) := by decide +kernel
theorem dL_boundOf_12 : decode cL_boundOf 12 = .ok (.astore_n 3, 1) := by decide +kernel
theorem dL_boundOf_13 : decode cL_boundOf 13 = .ok (.iconst 1, 1) := by decide +kernel
theorem dL_boundOf_14 : decode cL_boundOf 14 = .ok (.ireturn, 1) := by decide +kernel
theorem dL_boundOf_15 : decode cL_boundOf 15 = .ok (.iconst 0, 1) := by decide +kernel
theorem dL_boundOf_16 : decode cL_boundOf 16 = .ok (.ireturn, 1) := by decide +kernel
theorem dL_setWeight_0 : decode cL_setWeight 0 = .ok (.aload_n 3, 1) := by decide +kernel
theorem dL_setWeight_1 : decode cL_setWeight 1 = .ok (.iconst 0, 1) := by decide +kernel
theorem dL_setWeight_2 : decode cL_setWeight 2 = .ok (.aload_n 0, 1) := by decide +kernel
theorem dL_setWeight_3 : decode cL_setWeight 3 = .ok (.iload_n 1, 1) := by decide +kernel
theorem dL_setWeight_4 : decode cL_setWeight 4 = .ok (.iload_n 2, 1) := by decide +kernel
theorem dL_setWeight_5 : decode cL_setWeight 5 = .ok (.invokevirtual 35, 3) := by decide +kernel
theorem dL_setWeight_8 : decode cL_setWeight 8 = .ok (.i2l, 1) := by decide +kernel
theorem dL_setWeight_9 : decode cL_setWeight 9 = .ok (.lastore, 1) := by decide +kernel
theorem dL_setWeight_10 : decode cL_setWeight 10 = .ok (.goto 7, 3) := by decide +kernel
theorem dL_setWeight_13 : decode cL_setWeight 13 = .ok (.astore 4, 2) := by decide +kernel
theorem dL_setWeight_15 : decode cL_setWeight 15 = .ok (.iconst 1, 1) := by decide +kernel
theorem dL_setWeight_16 : decode cL_setWeight 16 = .ok (.ireturn, 1) := by decide +kernel
theorem dL_setWeight_17 : decode cL_setWeight 17 = .ok (.iconst 0, 1) := by decide +kernel
theorem dL_setWeight_18 : decode cL_setWeight 18 = .ok (.ireturn, 1) := by decide +kernel
theorem dL_weightOf_0 : decode cL_weightOf 0 = .ok (.aload_n 2, 1) := by decide +kernel
theorem dL_weightOf_1 : decode cL_weightOf 1 = .ok (.iconst 0, 1) := by decide +kernel
theorem dL_weightOf_2 : decode cL_weightOf 2 = .ok (.aload_n 0, 1) := by decide +kernel
theorem dL_weightOf_3 : decode cL_weightOf 3 = .ok (.iload_n 1, 1) := by decide +kernel
theorem dL_weightOf_4 : decode cL_weightOf 4 = .ok (.invokevirtual 38, 3) := by decide +kernel
theorem dL_weightOf_7 : decode cL_weightOf 7 = .ok (.i2l, 1) := by decide +kernel
theorem dL_weightOf_8 : decode cL_weightOf 8 = .ok (.lastore, 1) := by decide +kernel
theorem dL_weightOf_9 : decode cL_weightOf 9 = .ok (.goto 6, 3) := by decide +kernel
theorem dL_weightOf_12 : decode cL_weightOf 12 = .ok (.astore_n 3, 1) := by decide +kernel
theorem dL_weightOf_13 : decode cL_weightOf 13 = .ok (.iconst 1, 1) := by decide +kernel
theorem dL_weightOf_14 : decode cL_weightOf 14 = .ok (.ireturn, 1) := by decide +kernel
theorem dL_weightOf_15 : decode cL_weightOf 15 = .ok (.iconst 0, 1) := by decide +kernel
theorem dL_weightOf_16 : decode cL_weightOf 16 = .ok (.ireturn, 1) := by decide +kernel
theorem dL_zoneOf_0 : decode cL_zoneOf 0 = .ok (.aload_n 3, 1) := by decide +kernel
theorem dL_zoneOf_1 : decode cL_zoneOf 1 = .ok (.iconst 0, 1) := by decide +kernel
theorem dL_zoneOf_2 : decode cL_zoneOf 2 = .ok (.aload_n 0, 1) := by decide +kernel
theorem dL_zoneOf_3 : decode cL_zoneOf 3 = .ok (.iload_n 1, 1) := by decide +kernel
theorem dL_zoneOf_4 : decode cL_zoneOf 4 = .ok (.iload_n 2, 1) := by decide +kernel
theorem dL_zoneOf_5 : decode cL_zoneOf 5 = .ok (.invokevirtual 41, 3) := by decide +kernel
theorem dL_zoneOf_8 : decode cL_zoneOf 8 = .ok (.i2l, 1) := by decide +kernel
theorem dL_zoneOf_9 : decode cL_zoneOf 9 = .ok (.lastore, 1) := by decide +kernel
theorem dL_zoneOf_10 : decode cL_zoneOf 10 = .ok (.goto 7, 3) := by decide +kernel
theorem dL_zoneOf_13 : decode cL_zoneOf 13 = .ok (.astore 4, 2) := by decide +kernel
theorem dL_zoneOf_15 : decode cL_zoneOf 15 = .ok (.iconst 1, 1) := by decide +kernel
theorem dL_zoneOf_16 : decode cL_zoneOf 16 = .ok (.ireturn, 1) := by decide +kernel
theorem dL_zoneOf_17 : decode cL_zoneOf 17 = .ok (.iconst 0, 1) := by decide +kernel
theorem dL_zoneOf_18 : decode cL_zoneOf 18 = .ok (.ireturn, 1) := by decide +kernel
theorem dL_addSession_0 : decode cL_addSession 0 = .ok (.aload_n 2, 1) := by decide +kernel
theorem dL_addSession_1 : decode cL_addSession 1 = .ok (.iconst 0, 1) := by decide +kernel
theorem dL_addSession_2 : decode cL_addSession 2 = .ok (.aload_n 0, 1) := by decide +kernel
theorem dL_addSession_3 : decode cL_addSession 3 = .ok (.iload_n 1, 1) := by decide +kernel
theorem dL_addSession_4 : decode cL_addSession 4 = .ok (.invokevirtual 44, 3) := by decide +kernel
theorem dL_addSession_7 : decode cL_addSession 7 = .ok (.i2l, 1) := by decide +kernel
theorem dL_addSession_8 : decode cL_addSession 8 = .ok (.lastore, 1) := by decide +kernel
theorem dL_addSession_9 : decode cL_addSession 9 = .ok (.goto 9, 3) := by decide +kernel
theorem dL_addSession_12 : decode cL_addSession 12 = .ok (.astore_n 3, 1) := by decide +kernel
theorem dL_addSession_13 : decode cL_addSession 13 = .ok (.iconst 1, 1) := by decide +kernel
theorem dL_addSession_14 : decode cL_addSession 14 = .ok (.ireturn, 1) := by decide +kernel
theorem dL_addSession_15 : decode cL_addSession 15 = .ok (.astore_n 3, 1) := by decide +kernel
theorem dL_addSession_16 : decode cL_addSession 16 = .ok (.iconst 2, 1) := by decide +kernel
theorem dL_addSession_17 : decode cL_addSession 17 = .ok (.ireturn, 1) := by decide +kernel
theorem dL_addSession_18 : decode cL_addSession 18 = .ok (.iconst 0, 1) := by decide +kernel
theorem dL_addSession_19 : decode cL_addSession 19 = .ok (.ireturn, 1) := by decide +kernel
theorem dL_addPart_0 : decode cL_addPart 0 = .ok (.aload 4, 2) := by decide +kernel
theorem dL_addPart_2 : decode cL_addPart 2 = .ok (.iconst 0, 1) := by decide +kernel
theorem dL_addPart_3 : decode cL_addPart 3 = .ok (.aload_n 0, 1) := by decide +kernel
theorem dL_addPart_4 : decode cL_addPart 4 = .ok (.iload_n 1, 1) := by decide +kernel
theorem dL_addPart_5 : decode cL_addPart 5 = .ok (.iload_n 2, 1) := by decide +kernel
theorem dL_addPart_6 : decode cL_addPart 6 = .ok (.iload_n 3, 1) := by decide +kernel
theorem dL_addPart_7 : decode cL_addPart 7 = .ok (.invokevirtual 47, 3) := by decide +kernel
theorem dL_addPart_10 : decode cL_addPart 10 = .ok (.i2l, 1) := by decide +kernel
theorem dL_addPart_11 : decode cL_addPart 11 = .ok (.lastore, 1) := by decide +kernel
theorem dL_addPart_12 : decode cL_addPart 12 = .ok (.goto 15, 3) := by decide +kernel
theorem dL_addPart_15 : decode cL_addPart 15 = .ok (.astore 5, 2) := by decide +kernel
theorem dL_addPart_17 : decode cL_addPart 17 = .ok (.iconst 1, 1) := by decide +kernel
theorem dL_addPart_18 : decode cL_addPart 18 = .ok (.ireturn, 1) := by decide +kernel
theorem dL_addPart_19 : decode cL_addPart 19 = .ok (.astore 5, 2) := by decide +kernel
theorem dL_addPart_21 : decode cL_addPart 21 = .ok (.iconst 2, 1) := by decide +kernel
theorem dL_addPart_22 : decode cL_addPart 22 = .ok (.ireturn, 1) := by decide +kernel
theorem dL_addPart_23 : decode cL_addPart 23 = .ok (.astore 5, 2) := by decide +kernel
theorem dL_addPart_25 : decode cL_addPart 25 = .ok (.iconst 3, 1) := by decide +kernel
theorem dL_addPart_26 : decode cL_addPart 26 = .ok (.ireturn, 1) := by decide +kernel
theorem dL_addPart_27 : decode cL_addPart 27 = .ok (.iconst 0, 1) := by decide +kernel
theorem dL_addPart_28 : decode cL_addPart 28 = .ok (.ireturn, 1) := by decide +kernel
theorem dL_clearParts_0 : decode cL_clearParts 0 = .ok (.aload_n 2, 1) := by decide +kernel
theorem dL_clearParts_1 : decode cL_clearParts 1 = .ok (.iconst 0, 1) := by decide +kernel
theorem dL_clearParts_2 : decode cL_clearParts 2 = .ok (.aload_n 0, 1) := by decide +kernel
theorem dL_clearParts_3 : decode cL_clearParts 3 = .ok (.iload_n 1, 1) := by decide +kernel
theorem dL_clearParts_4 : decode cL_clearParts 4 = .ok (.invokevirtual 51, 3) := by decide +kernel
theorem dL_clearParts_7 : decode cL_clearParts 7 = .ok (.i2l, 1) := by decide +kernel
theorem dL_clearParts_8 : decode cL_clearParts 8 = .ok (.lastore, 1) := by decide +kernel
theorem dL_clearParts_9 : decode cL_clearParts 9 = .ok (.goto 6, 3) := by decide +kernel
theorem dL_clearParts_12 : decode cL_clearParts 12 = .ok (.astore_n 3, 1) := by decide +kernel
theorem dL_clearParts_13 : decode cL_clearParts 13 = .ok (.iconst 1, 1) := by decide +kernel
theorem dL_clearParts_14 : decode cL_clearParts 14 = .ok (.ireturn, 1) := by decide +kernel
theorem dL_clearParts_15 : decode cL_clearParts 15 = .ok (.iconst 0, 1) := by decide +kernel
theorem dL_clearParts_16 : decode cL_clearParts 16 = .ok (.ireturn, 1) := by decide +kernel
theorem dL_moveSession_0 : decode cL_moveSession 0 = .ok (.aload_n 3, 1) := by decide +kernel
theorem dL_moveSession_1 : decode cL_moveSession 1 = .ok (.iconst 0, 1) := by decide +kernel
theorem dL_moveSession_2 : decode cL_moveSession 2 = .ok (.aload_n 0, 1) := by decide +kernel
theorem dL_moveSession_3 : decode cL_moveSession 3 = .ok (.iload_n 1, 1) := by decide +kernel
theorem dL_moveSession_4 : decode cL_moveSession 4 = .ok (.iload_n 2, 1) := by decide +kernel
theorem dL_moveSession_5 : decode cL_moveSession 5 = .ok (.invokevirtual 54, 3) := by decide +kernel
theorem dL_moveSession_8 : decode cL_moveSession 8 = .ok (.i2l, 1) := by decide +kernel
theorem dL_moveSession_9 : decode cL_moveSession 9 = .ok (.lastore, 1) := by decide +kernel
theorem dL_moveSession_10 : decode cL_moveSession 10 = .ok (.goto 11, 3) := by decide +kernel
theorem dL_moveSession_13 : decode cL_moveSession 13 = .ok (.astore 4, 2) := by decide +kernel
theorem dL_moveSession_15 : decode cL_moveSession 15 = .ok (.iconst 1, 1) := by decide +kernel
theorem dL_moveSession_16 : decode cL_moveSession 16 = .ok (.ireturn, 1) := by decide +kernel
theorem dL_moveSession_17 : decode cL_moveSession 17 = .ok (.astore 4, 2) := by decide +kernel
theorem dL_moveSession_19 : decode cL_moveSession 19 = .ok (.iconst 2, 1) := by decide +kernel
theorem dL_moveSession_20 : decode cL_moveSession 20 = .ok (.ireturn, 1) := by decide +kernel
theorem dL_moveSession_21 : decode cL_moveSession 21 = .ok (.iconst 0, 1) := by decide +kernel
theorem dL_moveSession_22 : decode cL_moveSession 22 = .ok (.ireturn, 1) := by decide +kernel
theorem dL_removeSession_0 : decode cL_removeSession 0 = .ok (.aload_n 2, 1) := by decide +kernel
theorem dL_removeSession_1 : decode cL_removeSession 1 = .ok (.iconst 0, 1) := by decide +kernel
theorem dL_removeSession_2 : decode cL_removeSession 2 = .ok (.aload_n 0, 1) := by decide +kernel
theorem dL_removeSession_3 : decode cL_removeSession 3 = .ok (.iload_n 1, 1) := by decide +kernel
theorem dL_removeSession_4 : decode cL_removeSession 4 = .ok (.invokevirtual 57, 3) := by decide +kernel
theorem dL_removeSession_7 : decode cL_removeSession 7 = .ok (.i2l, 1) := by decide +kernel
theorem dL_removeSession_8 : decode cL_removeSession 8 = .ok (.lastore, 1) := by decide +kernel
theorem dL_removeSession_9 : decode cL_removeSession 9 = .ok (.goto 6, 3) := by decide +kernel
theorem dL_removeSession_12 : decode cL_removeSession 12 = .ok (.astore_n 3, 1) := by decide +kernel
theorem dL_removeSession_13 : decode cL_removeSession 13 = .ok (.iconst 1, 1) := by decide +kernel
theorem dL_removeSession_14 : decode cL_removeSession 14 = .ok (.ireturn, 1) := by decide +kernel
theorem dL_removeSession_15 : decode cL_removeSession 15 = .ok (.iconst 0, 1) := by decide +kernel
theorem dL_removeSession_16 : decode cL_removeSession 16 = .ok (.ireturn, 1) := by decide +kernel
theorem dL_sessionAt_0 : decode cL_sessionAt 0 = .ok (.aload_n 2, 1) := by decide +kernel
theorem dL_sessionAt_1 : decode cL_sessionAt 1 = .ok (.iconst 0, 1) := by decide +kernel
theorem dL_sessionAt_2 : decode cL_sessionAt 2 = .ok (.aload_n 0, 1) := by decide +kernel
theorem dL_sessionAt_3 : decode cL_sessionAt 3 = .ok (.iload_n 1, 1) := by decide +kernel
theorem dL_sessionAt_4 : decode cL_sessionAt 4 = .ok (.invokevirtual 60, 3) := by decide +kernel
theorem dL_sessionAt_7 : decode cL_sessionAt 7 = .ok (.i2l, 1) := by decide +kernel
theorem dL_sessionAt_8 : decode cL_sessionAt 8 = .ok (.lastore, 1) := by decide +kernel
theorem dL_sessionAt_9 : decode cL_sessionAt 9 = .ok (.goto 6, 3) := by decide +kernel
theorem dL_sessionAt_12 : decode cL_sessionAt 12 = .ok (.astore_n 3, 1) := by decide +kernel
theorem dL_sessionAt_13 : decode cL_sessionAt 13 = .ok (.iconst 1, 1) := by decide +kernel
theorem dL_sessionAt_14 : decode cL_sessionAt 14 = .ok (.ireturn, 1) := by decide +kernel
theorem dL_sessionAt_15 : decode cL_sessionAt 15 = .ok (.iconst 0, 1) := by decide +kernel
theorem dL_sessionAt_16 : decode cL_sessionAt 16 = .ok (.ireturn, 1) := by decide +kernel
theorem dL_dayOf_0 : decode cL_dayOf 0 = .ok (.aload_n 2, 1) := by decide +kernel
theorem dL_dayOf_1 : decode cL_dayOf 1 = .ok (.iconst 0, 1) := by decide +kernel
theorem dL_dayOf_2 : decode cL_dayOf 2 = .ok (.aload_n 0, 1) := by decide +kernel
theorem dL_dayOf_3 : decode cL_dayOf 3 = .ok (.iload_n 1, 1) := by decide +kernel
theorem dL_dayOf_4 : decode cL_dayOf 4 = .ok (.invokevirtual 65, 3) := by decide +kernel
theorem dL_dayOf_7 : decode cL_dayOf 7 = .ok (.i2l, 1) := by decide +kernel
theorem dL_dayOf_8 : decode cL_dayOf 8 = .ok (.lastore, 1) := by decide +kernel
theorem dL_dayOf_9 : decode cL_dayOf 9 = .ok (.goto 6, 3) := by decide +kernel
theorem dL_dayOf_12 : decode cL_dayOf 12 = .ok (.astore_n 3, 1) := by decide +kernel
theorem dL_dayOf_13 : decode cL_dayOf 13 = .ok (.iconst 1, 1) := by decide +kernel
theorem dL_dayOf_14 : decode cL_dayOf 14 = .ok (.ireturn, 1) := by decide +kernel
theorem dL_dayOf_15 : decode cL_dayOf 15 = .ok (.iconst 0, 1) := by decide +kernel
theorem dL_dayOf_16 : decode cL_dayOf 16 = .ok (.ireturn, 1) := by decide +kernel
theorem dL_minutesOf_0 : decode cL_minutesOf 0 = .ok (.aload_n 2, 1) := by decide +kernel
theorem dL_minutesOf_1 : decode cL_minutesOf 1 = .ok (.iconst 0, 1) := by decide +kernel
theorem dL_minutesOf_2 : decode cL_minutesOf 2 = .ok (.aload_n 0, 1) := by decide +kernel
theorem dL_minutesOf_3 : decode cL_minutesOf 3 = .ok (.iload_n 1, 1) := by decide +kernel
theorem dL_minutesOf_4 : decode cL_minutesOf 4 = .ok (.invokevirtual 68, 3) := by decide +kernel
theorem dL_minutesOf_7 : decode cL_minutesOf 7 = .ok (.i2l, 1) := by decide +kernel
theorem dL_minutesOf_8 : decode cL_minutesOf 8 = .ok (.lastore, 1) := by decide +kernel
theorem dL_minutesOf_9 : decode cL_minutesOf 9 = .ok (.goto 6, 3) := by decide +kernel
theorem dL_minutesOf_12 : decode cL_minutesOf 12 = .ok (.astore_n 3, 1) := by decide +kernel
theorem dL_minutesOf_13 : decode cL_minutesOf 13 = .ok (.iconst 1, 1) := by decide +kernel
theorem dL_minutesOf_14 : decode cL_minutesOf 14 = .ok (.ireturn, 1) := by decide +kernel
theorem dL_minutesOf_15 : decode cL_minutesOf 15 = .ok (.iconst 0, 1) := by decide +kernel
theorem dL_minutesOf_16 : decode cL_minutesOf 16 = .ok (.ireturn, 1) := by decide +kernel
theorem dL_minutesInZone_0 : decode cL_minutesInZone 0 = .ok (.aload_n 3, 1) := by decide +kernel
theorem dL_minutesInZone_1 : decode cL_minutesInZone 1 = .ok (.iconst 0, 1) := by decide +kernel
theorem dL_minutesInZone_2 : decode cL_minutesInZone 2 = .ok (.aload_n 0, 1) := by decide +kernel
theorem dL_minutesInZone_3 : decode cL_minutesInZone 3 = .ok (.iload_n 1, 1) := by decide +kernel
theorem dL_minutesInZone_4 : decode cL_minutesInZone 4 = .ok (.iload_n 2, 1) := by decide +kernel
theorem dL_minutesInZone_5 : decode cL_minutesInZone 5 = .ok (.invokevirtual 71, 3) := by decide +kernel
theorem dL_minutesInZone_8 : decode cL_minutesInZone 8 = .ok (.i2l, 1) := by decide +kernel
theorem dL_minutesInZone_9 : decode cL_minutesInZone 9 = .ok (.lastore, 1) := by decide +kernel
theorem dL_minutesInZone_10 : decode cL_minutesInZone 10 = .ok (.goto 11, 3) := by decide +kernel
theorem dL_minutesInZone_13 : decode cL_minutesInZone 13 = .ok (.astore 4, 2) := by decide +kernel
theorem dL_minutesInZone_15 : decode cL_minutesInZone 15 = .ok (.iconst 1, 1) := by decide +kernel
theorem dL_minutesInZone_16 : decode cL_minutesInZone 16 = .ok (.ireturn, 1) := by decide +kernel
theorem dL_minutesInZone_17 : decode cL_minutesInZone 17 = .ok (.astore 4, 2) := by decide +kernel
theorem dL_minutesInZone_19 : decode cL_minutesInZone 19 = .ok (.iconst 2, 1) := by decide +kernel
theorem dL_minutesInZone_20 : decode cL_minutesInZone 20 = .ok (.ireturn, 1) := by decide +kernel
theorem dL_minutesInZone_21 : decode cL_minutesInZone 21 = .ok (.iconst 0, 1) := by decide +kernel
theorem dL_minutesInZone_22 : decode cL_minutesInZone 22 = .ok (.ireturn, 1) := by decide +kernel
theorem dL_loadOf_0 : decode cL_loadOf 0 = .ok (.aload_n 2, 1) := by decide +kernel
theorem dL_loadOf_1 : decode cL_loadOf 1 = .ok (.iconst 0, 1) := by decide +kernel
theorem dL_loadOf_2 : decode cL_loadOf 2 = .ok (.aload_n 0, 1) := by decide +kernel
theorem dL_loadOf_3 : decode cL_loadOf 3 = .ok (.iload_n 1, 1) := by decide +kernel
theorem dL_loadOf_4 : decode cL_loadOf 4 = .ok (.invokevirtual 74, 3) := by decide +kernel
theorem dL_loadOf_7 : decode cL_loadOf 7 = .ok (.i2l, 1) := by decide +kernel
theorem dL_loadOf_8 : decode cL_loadOf 8 = .ok (.lastore, 1) := by decide +kernel
theorem dL_loadOf_9 : decode cL_loadOf 9 = .ok (.goto 6, 3) := by decide +kernel
theorem dL_loadOf_12 : decode cL_loadOf 12 = .ok (.astore_n 3, 1) := by decide +kernel
theorem dL_loadOf_13 : decode cL_loadOf 13 = .ok (.iconst 1, 1) := by decide +kernel
theorem dL_loadOf_14 : decode cL_loadOf 14 = .ok (.ireturn, 1) := by decide +kernel
theorem dL_loadOf_15 : decode cL_loadOf 15 = .ok (.iconst 0, 1) := by decide +kernel
theorem dL_loadOf_16 : decode cL_loadOf 16 = .ok (.ireturn, 1) := by decide +kernel
theorem dL_loadOn_0 : decode cL_loadOn 0 = .ok (.aload_n 2, 1) := by decide +kernel
theorem dL_loadOn_1 : decode cL_loadOn 1 = .ok (.iconst 0, 1) := by decide +kernel
theorem dL_loadOn_2 : decode cL_loadOn 2 = .ok (.aload_n 0, 1) := by decide +kernel
theorem dL_loadOn_3 : decode cL_loadOn 3 = .ok (.iload_n 1, 1) := by decide +kernel
theorem dL_loadOn_4 : decode cL_loadOn 4 = .ok (.invokevirtual 77, 3) := by decide +kernel
theorem dL_loadOn_7 : decode cL_loadOn 7 = .ok (.i2l, 1) := by decide +kernel
theorem dL_loadOn_8 : decode cL_loadOn 8 = .ok (.lastore, 1) := by decide +kernel
theorem dL_loadOn_9 : decode cL_loadOn 9 = .ok (.goto 6, 3) := by decide +kernel
theorem dL_loadOn_12 : decode cL_loadOn 12 = .ok (.astore_n 3, 1) := by decide +kernel
theorem dL_loadOn_13 : decode cL_loadOn 13 = .ok (.iconst 1, 1) := by decide +kernel
theorem dL_loadOn_14 : decode cL_loadOn 14 = .ok (.ireturn, 1) := by decide +kernel
theorem dL_loadOn_15 : decode cL_loadOn 15 = .ok (.iconst 0, 1) := by decide +kernel
theorem dL_loadOn_16 : decode cL_loadOn 16 = .ok (.ireturn, 1) := by decide +kernel
theorem dL_zoneShare_0 : decode cL_zoneShare 0 = .ok (.aload_n 2, 1) := by decide +kernel
theorem dL_zoneShare_1 : decode cL_zoneShare 1 = .ok (.iconst 0, 1) := by decide +kernel
theorem dL_zoneShare_2 : decode cL_zoneShare 2 = .ok (.aload_n 0, 1) := by decide +kernel
theorem dL_zoneShare_3 : decode cL_zoneShare 3 = .ok (.iload_n 1, 1) := by decide +kernel
theorem dL_zoneShare_4 : decode cL_zoneShare 4 = .ok (.invokevirtual 80, 3) := by decide +kernel
theorem dL_zoneShare_7 : decode cL_zoneShare 7 = .ok (.f2d, 1) := by decide +kernel
theorem dL_zoneShare_8 : decode cL_zoneShare 8 = .ok (.dastore, 1) := by decide +kernel
theorem dL_zoneShare_9 : decode cL_zoneShare 9 = .ok (.goto 9, 3) := by decide +kernel
theorem dL_zoneShare_12 : decode cL_zoneShare 12 = .ok (.astore_n 3, 1) := by decide +kernel
theorem dL_zoneShare_13 : decode cL_zoneShare 13 = .ok (.iconst 1, 1) := by decide +kernel
theorem dL_zoneShare_14 : decode cL_zoneShare 14 = .ok (.ireturn, 1) := by decide +kernel
theorem dL_zoneShare_15 : decode cL_zoneShare 15 = .ok (.astore_n 3, 1) := by decide +kernel
theorem dL_zoneShare_16 : decode cL_zoneShare 16 = .ok (.iconst 2, 1) := by decide +kernel
theorem dL_zoneShare_17 : decode cL_zoneShare 17 = .ok (.ireturn, 1) := by decide +kernel
theorem dL_zoneShare_18 : decode cL_zoneShare 18 = .ok (.iconst 0, 1) := by decide +kernel
theorem dL_zoneShare_19 : decode cL_zoneShare 19 = .ok (.ireturn, 1) := by decide +kernel
theorem dL_fitnessOn_0 : decode cL_fitnessOn 0 = .ok (.aload_n 2, 1) := by decide +kernel
theorem dL_fitnessOn_1 : decode cL_fitnessOn 1 = .ok (.iconst 0, 1) := by decide +kernel
theorem dL_fitnessOn_2 : decode cL_fitnessOn 2 = .ok (.aload_n 0, 1) := by decide +kernel
theorem dL_fitnessOn_3 : decode cL_fitnessOn 3 = .ok (.iload_n 1, 1) := by decide +kernel
theorem dL_fitnessOn_4 : decode cL_fitnessOn 4 = .ok (.invokevirtual 86, 3) := by decide +kernel
theorem dL_fitnessOn_7 : decode cL_fitnessOn 7 = .ok (.i2l, 1) := by decide +kernel
theorem dL_fitnessOn_8 : decode cL_fitnessOn 8 = .ok (.lastore, 1) := by decide +kernel
theorem dL_fitnessOn_9 : decode cL_fitnessOn 9 = .ok (.goto 6, 3) := by decide +kernel
theorem dL_fitnessOn_12 : decode cL_fitnessOn 12 = .ok (.astore_n 3, 1) := by decide +kernel
theorem dL_fitnessOn_13 : decode cL_fitnessOn 13 = .ok (.iconst 1, 1) := by decide +kernel
theorem dL_fitnessOn_14 : decode cL_fitnessOn 14 = .ok (.ireturn, 1) := by decide +kernel
theorem dL_fitnessOn_15 : decode cL_fitnessOn 15 = .ok (.iconst 0, 1) := by decide +kernel
theorem dL_fitnessOn_16 : decode cL_fitnessOn 16 = .ok (.ireturn, 1) := by decide +kernel
theorem dL_fitnessFromStart_0 : decode cL_fitnessFromStart 0 = .ok (.aload_n 2, 1) := by decide +kernel
theorem dL_fitnessFromStart_1 : decode cL_fitnessFromStart 1 = .ok (.iconst 0, 1) := by decide +kernel
theorem dL_fitnessFromStart_2 : decode cL_fitnessFromStart 2 = .ok (.aload_n 0, 1) := by decide +kernel
theorem dL_fitnessFromStart_3 : decode cL_fitnessFromStart 3 = .ok (.iload_n 1, 1) := by decide +kernel
theorem dL_fitnessFromStart_4 : decode cL_fitnessFromStart 4 = .ok (.invokevirtual 89, 3) := by decide +kernel
theorem dL_fitnessFromStart_7 : decode cL_fitnessFromStart 7 = .ok (.i2l, 1) := by decide +kernel
theorem dL_fitnessFromStart_8 : decode cL_fitnessFromStart 8 = .ok (.lastore, 1) := by decide +kernel
theorem dL_fitnessFromStart_9 : decode cL_fitnessFromStart 9 = .ok (.goto 6, 3) := by decide +kernel
theorem dL_fitnessFromStart_12 : decode cL_fitnessFromStart 12 = .ok (.astore_n 3, 1) := by decide +kernel
theorem dL_fitnessFromStart_13 : decode cL_fitnessFromStart 13 = .ok (.iconst 1, 1) := by decide +kernel
theorem dL_fitnessFromStart_14 : decode cL_fitnessFromStart 14 = .ok (.ireturn, 1) := by decide +kernel
theorem dL_fitnessFromStart_15 : decode cL_fitnessFromStart 15 = .ok (.iconst 0, 1) := by decide +kernel
theorem dL_fitnessFromStart_16 : decode cL_fitnessFromStart 16 = .ok (.ireturn, 1) := by decide +kernel
theorem dL_fatigueOn_0 : decode cL_fatigueOn 0 = .ok (.aload_n 2, 1) := by decide +kernel
theorem dL_fatigueOn_1 : decode cL_fatigueOn 1 = .ok (.iconst 0, 1) := by decide +kernel
theorem dL_fatigueOn_2 : decode cL_fatigueOn 2 = .ok (.aload_n 0, 1) := by decide +kernel
theorem dL_fatigueOn_3 : decode cL_fatigueOn 3 = .ok (.iload_n 1, 1) := by decide +kernel
theorem dL_fatigueOn_4 : decode cL_fatigueOn 4 = .ok (.invokevirtual 92, 3) := by decide +kernel
theorem dL_fatigueOn_7 : decode cL_fatigueOn 7 = .ok (.i2l, 1) := by decide +kernel
theorem dL_fatigueOn_8 : decode cL_fatigueOn 8 = .ok (.lastore, 1) := by decide +kernel
theorem dL_fatigueOn_9 : decode cL_fatigueOn 9 = .ok (.goto 6, 3) := by decide +kernel
theorem dL_fatigueOn_12 : decode cL_fatigueOn 12 = .ok (.astore_n 3, 1) := by decide +kernel
theorem dL_fatigueOn_13 : decode cL_fatigueOn 13 = .ok (.iconst 1, 1) := by decide +kernel
theorem dL_fatigueOn_14 : decode cL_fatigueOn 14 = .ok (.ireturn, 1) := by decide +kernel
theorem dL_fatigueOn_15 : decode cL_fatigueOn 15 = .ok (.iconst 0, 1) := by decide +kernel
theorem dL_fatigueOn_16 : decode cL_fatigueOn 16 = .ok (.ireturn, 1) := by decide +kernel
theorem dL_fatigueFromStart_0 : decode cL_fatigueFromStart 0 = .ok (.aload_n 2, 1) := by decide +kernel
theorem dL_fatigueFromStart_1 : decode cL_fatigueFromStart 1 = .ok (.iconst 0, 1) := by decide +kernel
theorem dL_fatigueFromStart_2 : decode cL_fatigueFromStart 2 = .ok (.aload_n 0, 1) := by decide +kernel
theorem dL_fatigueFromStart_3 : decode cL_fatigueFromStart 3 = .ok (.iload_n 1, 1) := by decide +kernel
theorem dL_fatigueFromStart_4 : decode cL_fatigueFromStart 4 = .ok (.invokevirtual 95, 3) := by decide +kernel
theorem dL_fatigueFromStart_7 : decode cL_fatigueFromStart 7 = .ok (.i2l, 1) := by decide +kernel
theorem dL_fatigueFromStart_8 : decode cL_fatigueFromStart 8 = .ok (.lastore, 1) := by decide +kernel
theorem dL_fatigueFromStart_9 : decode cL_fatigueFromStart 9 = .ok (.goto 6, 3) := by decide +kernel
theorem dL_fatigueFromStart_12 : decode cL_fatigueFromStart 12 = .ok (.astore_n 3, 1) := by decide +kernel
theorem dL_fatigueFromStart_13 : decode cL_fatigueFromStart 13 = .ok (.iconst 1, 1) := by decide +kernel
theorem dL_fatigueFromStart_14 : decode cL_fatigueFromStart 14 = .ok (.ireturn, 1) := by decide +kernel
theorem dL_fatigueFromStart_15 : decode cL_fatigueFromStart 15 = .ok (.iconst 0, 1) := by decide +kernel
theorem dL_fatigueFromStart_16 : decode cL_fatigueFromStart 16 = .ok (.ireturn, 1) := by decide +kernel
theorem dL_formOn_0 : decode cL_formOn 0 = .ok (.aload_n 2, 1) := by decide +kernel
theorem dL_formOn_1 : decode cL_formOn 1 = .ok (.iconst 0, 1) := by decide +kernel
theorem dL_formOn_2 : decode cL_formOn 2 = .ok (.aload_n 0, 1) := by decide +kernel
theorem dL_formOn_3 : decode cL_formOn 3 = .ok (.iload_n 1, 1) := by decide +kernel
theorem dL_formOn_4 : decode cL_formOn 4 = .ok (.invokevirtual 98, 3) := by decide +kernel
theorem dL_formOn_7 : decode cL_formOn 7 = .ok (.i2l, 1) := by decide +kernel
theorem dL_formOn_8 : decode cL_formOn 8 = .ok (.lastore, 1) := by decide +kernel
theorem dL_formOn_9 : decode cL_formOn 9 = .ok (.goto 6, 3) := by decide +kernel
theorem dL_formOn_12 : decode cL_formOn 12 = .ok (.astore_n 3, 1) := by decide +kernel
theorem dL_formOn_13 : decode cL_formOn 13 = .ok (.iconst 1, 1) := by decide +kernel
theorem dL_formOn_14 : decode cL_formOn 14 = .ok (.ireturn, 1) := by decide +kernel
theorem dL_formOn_15 : decode cL_formOn 15 = .ok (.iconst 0, 1) := by decide +kernel
theorem dL_formOn_16 : decode cL_formOn 16 = .ok (.ireturn, 1) := by decide +kernel
theorem dL_daysToForm_0 : decode cL_daysToForm 0 = .ok (.aload_n 2, 1) := by decide +kernel
theorem dL_daysToForm_1 : decode cL_daysToForm 1 = .ok (.iconst 0, 1) := by decide +kernel
theorem dL_daysToForm_2 : decode cL_daysToForm 2 = .ok (.aload_n 0, 1) := by decide +kernel
theorem dL_daysToForm_3 : decode cL_daysToForm 3 = .ok (.iload_n 1, 1) := by decide +kernel
theorem dL_daysToForm_4 : decode cL_daysToForm 4 = .ok (.invokevirtual 101, 3) := by decide +kernel
theorem dL_daysToForm_7 : decode cL_daysToForm 7 = .ok (.i2l, 1) := by decide +kernel
theorem dL_daysToForm_8 : decode cL_daysToForm 8 = .ok (.lastore, 1) := by decide +kernel
theorem dL_daysToForm_9 : decode cL_daysToForm 9 = .ok (.goto 9, 3) := by decide +kernel
theorem dL_daysToForm_12 : decode cL_daysToForm 12 = .ok (.astore_n 3, 1) := by decide +kernel
theorem dL_daysToForm_13 : decode cL_daysToForm 13 = .ok (.iconst 1, 1) := by decide +kernel
theorem dL_daysToForm_14 : decode cL_daysToForm 14 = .ok (.ireturn, 1) := by decide +kernel
theorem dL_daysToForm_15 : decode cL_daysToForm 15 = .ok (.astore_n 3, 1) := by decide +kernel
theorem dL_daysToForm_16 : decode cL_daysToForm 16 = .ok (.iconst 2, 1) := by decide +kernel
theorem dL_daysToForm_17 : decode cL_daysToForm 17 = .ok (.ireturn, 1) := by decide +kernel
theorem dL_daysToForm_18 : decode cL_daysToForm 18 = .ok (.iconst 0, 1) := by decide +kernel
theorem dL_daysToForm_19 : decode cL_daysToForm 19 = .ok (.ireturn, 1) := by decide +kernel
theorem dL_bestDays_0 : decode cL_bestDays 0 = .ok (.aload_n 2, 1) := by decide +kernel
theorem dL_bestDays_1 : decode cL_bestDays 1 = .ok (.iconst 0, 1) := by decide +kernel
theorem dL_bestDays_2 : decode cL_bestDays 2 = .ok (.aload_n 0, 1) := by decide +kernel
theorem dL_bestDays_3 : decode cL_bestDays 3 = .ok (.iload_n 1, 1) := by decide +kernel
theorem dL_bestDays_4 : decode cL_bestDays 4 = .ok (.invokevirtual 104, 3) := by decide +kernel
theorem dL_bestDays_7 : decode cL_bestDays 7 = .ok (.i2l, 1) := by decide +kernel
theorem dL_bestDays_8 : decode cL_bestDays 8 = .ok (.lastore, 1) := by decide +kernel
theorem dL_bestDays_9 : decode cL_bestDays 9 = .ok (.goto 9, 3) := by decide +kernel
theorem dL_bestDays_12 : decode cL_bestDays 12 = .ok (.astore_n 3, 1) := by decide +kernel
theorem dL_bestDays_13 : decode cL_bestDays 13 = .ok (.iconst 1, 1) := by decide +kernel
theorem dL_bestDays_14 : decode cL_bestDays 14 = .ok (.ireturn, 1) := by decide +kernel
theorem dL_bestDays_15 : decode cL_bestDays 15 = .ok (.astore_n 3, 1) := by decide +kernel
theorem dL_bestDays_16 : decode cL_bestDays 16 = .ok (.iconst 2, 1) := by decide +kernel
theorem dL_bestDays_17 : decode cL_bestDays 17 = .ok (.ireturn, 1) := by decide +kernel
theorem dL_bestDays_18 : decode cL_bestDays 18 = .ok (.iconst 0, 1) := by decide +kernel
theorem dL_bestDays_19 : decode cL_bestDays 19 = .ok (.ireturn, 1) := by decide +kernel
theorem dL_bestDaysByTrying_0 : decode cL_bestDaysByTrying 0 = .ok (.aload_n 2, 1) := by decide +kernel
theorem dL_bestDaysByTrying_1 : decode cL_bestDaysByTrying 1 = .ok (.iconst 0, 1) := by decide +kernel
theorem dL_bestDaysByTrying_2 : decode cL_bestDaysByTrying 2 = .ok (.aload_n 0, 1) := by decide +kernel
theorem dL_bestDaysByTrying_3 : decode cL_bestDaysByTrying 3 = .ok (.iload_n 1, 1) := by decide +kernel
theorem dL_bestDaysByTrying_4 : decode cL_bestDaysByTrying 4 = .ok (.invokevirtual 107, 3) := by decide +kernel
theorem dL_bestDaysByTrying_7 : decode cL_bestDaysByTrying 7 = .ok (.i2l, 1) := by decide +kernel
