theorem dX0_init_0 : decode cX0_init 0 = .ok (.aload_n 0, 1) := by decide +kernel
theorem dX0_init_1 : decode cX0_init 1 = .ok (.invokespecial 3, 3) := by decide +kernel
theorem dX0_init_4 : decode cX0_init 4 = .ok (.aload_n 0, 1) := by decide +kernel
theorem dX0_init_5 : decode cX0_init 5 = .ok (.iconst 0, 1) := by decide +kernel
theorem dX0_init_6 : decode cX0_init 6 = .ok (.putfield 9, 3) := by decide +kernel
theorem dX0_init_9 : decode cX0_init 9 = .ok (.aload_n 0, 1) := by decide +kernel
theorem dX0_init_10 : decode cX0_init 10 = .ok (.iconst 0, 1) := by decide +kernel
theorem dX0_init_11 : decode cX0_init 11 = .ok (.putfield 15, 3) := by decide +kernel
theorem dX0_init_14 : decode cX0_init 14 = .ok (.aload_n 0, 1) := by decide +kernel
theorem dX0_init_15 : decode cX0_init 15 = .ok (.iconst 0, 1) := by decide +kernel
theorem dX0_init_16 : decode cX0_init 16 = .ok (.putfield 18, 3) := by decide +kernel
theorem dX0_init_19 : decode cX0_init 19 = .ok (.return_, 1) := by decide +kernel
theorem dX0_follow_0 : decode cX0_follow 0 = .ok (.aload_n 0, 1) := by decide +kernel
theorem dX0_follow_1 : decode cX0_follow 1 = .ok (.iconst 0, 1) := by decide +kernel
theorem dX0_follow_2 : decode cX0_follow 2 = .ok (.putfield 9, 3) := by decide +kernel
theorem dX0_follow_5 : decode cX0_follow 5 = .ok (.aload_n 0, 1) := by decide +kernel
theorem dX0_follow_6 : decode cX0_follow 6 = .ok (.iconst 0, 1) := by decide +kernel
theorem dX0_follow_7 : decode cX0_follow 7 = .ok (.putfield 15, 3) := by decide +kernel
theorem dX0_follow_10 : decode cX0_follow 10 = .ok (.aload_n 0, 1) := by decide +kernel
theorem dX0_follow_11 : decode cX0_follow 11 = .ok (.iconst 0, 1) := by decide +kernel
theorem dX0_follow_12 : decode cX0_follow 12 = .ok (.putfield 18, 3) := by decide +kernel
theorem dX0_follow_15 : decode cX0_follow 15 = .ok (.iconst 0, 1) := by decide +kernel
theorem dX0_follow_16 : decode cX0_follow 16 = .ok (.istore 4, 2) := by decide +kernel
theorem dX0_follow_18 : decode cX0_follow 18 = .ok (.aload_n 1, 1) := by decide +kernel
theorem dX0_follow_19 : decode cX0_follow 19 = .ok (.getfield 21, 3) := by decide +kernel
theorem dX0_follow_22 : decode cX0_follow 22 = .ok (.istore 5, 2) := by decide +kernel
theorem dX0_follow_24 : decode cX0_follow 24 = .ok (.iload 5, 2) := by decide +kernel
theorem dX0_follow_26 : decode cX0_follow 26 = .ok (.iload_n 2, 1) := by decide +kernel
theorem dX0_follow_27 : decode cX0_follow 27 = .ok (.if_icmp .ge 114, 3) := by decide +kernel
theorem dX0_follow_30 : decode cX0_follow 30 = .ok (.aload_n 0, 1) := by decide +kernel
theorem dX0_follow_31 : decode cX0_follow 31 = .ok (.getfield 9, 3) := by decide +kernel
theorem dX0_follow_34 : decode cX0_follow 34 = .ok (.aload_n 1, 1) := by decide +kernel
theorem dX0_follow_35 : decode cX0_follow 35 = .ok (.getfield 26, 3) := by decide +kernel
theorem dX0_follow_38 : decode cX0_follow 38 = .ok (.if_icmp .ge 103, 3) := by decide +kernel
theorem dX0_follow_41 : decode cX0_follow 41 = .ok (.iconst 2, 1) := by decide +kernel
theorem dX0_follow_42 : decode cX0_follow 42 = .ok (.aload_n 3, 1) := by decide +kernel
theorem dX0_follow_43 : decode cX0_follow 43 = .ok (.iload 5, 2) := by decide +kernel
theorem dX0_follow_45 : decode cX0_follow 45 = .ok (.iaload, 1) := by decide +kernel
theorem dX0_follow_46 : decode cX0_follow 46 = .ok (.imul, 1) := by decide +kernel
theorem dX0_follow_47 : decode cX0_follow 47 = .ok (.aload_n 1, 1) := by decide +kernel
theorem dX0_follow_48 : decode cX0_follow 48 = .ok (.getfield 29, 3) := by decide +kernel
theorem dX0_follow_51 : decode cX0_follow 51 = .ok (.aload_n 0, 1) := by decide +kernel
theorem dX0_follow_52 : decode cX0_follow 52 = .ok (.getfield 9, 3) := by decide +kernel
theorem dX0_follow_55 : decode cX0_follow 55 = .ok (.iaload, 1) := by decide +kernel
theorem dX0_follow_56 : decode cX0_follow 56 = .ok (.if_icmp .ge 7, 3) := by decide +kernel
theorem dX0_follow_59 : decode cX0_follow 59 = .ok (.iconst 1, 1) := by decide +kernel
theorem dX0_follow_60 : decode cX0_follow 60 = .ok (.goto 4, 3) := by decide +kernel
theorem dX0_follow_63 : decode cX0_follow 63 = .ok (.iconst 0, 1) := by decide +kernel
theorem dX0_follow_64 : decode cX0_follow 64 = .ok (.istore 6, 2) := by decide +kernel
theorem dX0_follow_66 : decode cX0_follow 66 = .ok (.iload 6, 2) := by decide +kernel
theorem dX0_follow_68 : decode cX0_follow 68 = .ok (.ifCond .eq 16, 3) := by decide +kernel
theorem dX0_follow_71 : decode cX0_follow 71 = .ok (.aload_n 0, 1) := by decide +kernel
theorem dX0_follow_72 : decode cX0_follow 72 = .ok (.dup, 1) := by decide +kernel
theorem dX0_follow_73 : decode cX0_follow 73 = .ok (.getfield 15, 3) := by decide +kernel
theorem dX0_follow_76 : decode cX0_follow 76 = .ok (.iconst 1, 1) := by decide +kernel
theorem dX0_follow_77 : decode cX0_follow 77 = .ok (.iadd, 1) := by decide +kernel
theorem dX0_follow_78 : decode cX0_follow 78 = .ok (.putfield 15, 3) := by decide +kernel
theorem dX0_follow_81 : decode cX0_follow 81 = .ok (.iinc 4 1, 3) := by decide +kernel
theorem dX0_follow_84 : decode cX0_follow 84 = .ok (.iload 4, 2) := by decide +kernel
theorem dX0_follow_86 : decode cX0_follow 86 = .ok (.iconst 3, 1) := by decide +kernel
theorem dX0_follow_87 : decode cX0_follow 87 = .ok (.if_icmp .ne 7, 3) := by decide +kernel
theorem dX0_follow_90 : decode cX0_follow 90 = .ok (.iconst 1, 1) := by decide +kernel
theorem dX0_follow_91 : decode cX0_follow 91 = .ok (.goto 4, 3) := by decide +kernel
theorem dX0_follow_94 : decode cX0_follow 94 = .ok (.iconst 0, 1) := by decide +kernel
theorem dX0_follow_95 : decode cX0_follow 95 = .ok (.istore 7, 2) := by decide +kernel
theorem dX0_follow_97 : decode cX0_follow 97 = .ok (.iload 7, 2) := by decide +kernel
theorem dX0_follow_99 : decode cX0_follow 99 = .ok (.ifCond .eq 13, 3) := by decide +kernel
theorem dX0_follow_102 : decode cX0_follow 102 = .ok (.aload_n 0, 1) := by decide +kernel
theorem dX0_follow_103 : decode cX0_follow 103 = .ok (.dup, 1) := by decide +kernel
theorem dX0_follow_104 : decode cX0_follow 104 = .ok (.getfield 18, 3) := by decide +kernel
theorem dX0_follow_107 : decode cX0_follow 107 = .ok (.iconst 1, 1) := by decide +kernel
theorem dX0_follow_108 : decode cX0_follow 108 = .ok (.iadd, 1) := by decide +kernel
theorem dX0_follow_109 : decode cX0_follow 109 = .ok (.putfield 18, 3) := by decide +kernel
theorem dX0_follow_112 : decode cX0_follow 112 = .ok (.iload 7, 2) := by decide +kernel
theorem dX0_follow_114 : decode cX0_follow 114 = .ok (.ifCond .ne 8, 3) := by decide +kernel
theorem dX0_follow_117 : decode cX0_follow 117 = .ok (.iload 6, 2) := by decide +kernel
theorem dX0_follow_119 : decode cX0_follow 119 = .ok (.ifCond .ne 16, 3) := by decide +kernel
theorem dX0_follow_122 : decode cX0_follow 122 = .ok (.aload_n 0, 1) := by decide +kernel
theorem dX0_follow_123 : decode cX0_follow 123 = .ok (.dup, 1) := by decide +kernel
theorem dX0_follow_124 : decode cX0_follow 124 = .ok (.getfield 9, 3) := by decide +kernel
theorem dX0_follow_127 : decode cX0_follow 127 = .ok (.iconst 1, 1) := by decide +kernel
theorem dX0_follow_128 : decode cX0_follow 128 = .ok (.iadd, 1) := by decide +kernel
theorem dX0_follow_129 : decode cX0_follow 129 = .ok (.putfield 9, 3) := by decide +kernel
theorem dX0_follow_132 : decode cX0_follow 132 = .ok (.iconst 0, 1) := by decide +kernel
theorem dX0_follow_133 : decode cX0_follow 133 = .ok (.istore 4, 2) := by decide +kernel
theorem dX0_follow_135 : decode cX0_follow 135 = .ok (.iinc 5 1, 3) := by decide +kernel
theorem dX0_follow_138 : decode cX0_follow 138 = .ok (.goto (-114), 3) := by decide +kernel
theorem dX0_follow_141 : decode cX0_follow 141 = .ok (.return_, 1) := by decide +kernel
theorem dX1_init_0 : decode cX1_init 0 = .ok (.aload_n 0, 1) := by decide +kernel
theorem dX1_init_1 : decode cX1_init 1 = .ok (.invokespecial 3, 3) := by decide +kernel
theorem dX1_init_4 : decode cX1_init 4 = .ok (.aload_n 0, 1) := by decide +kernel
theorem dX1_init_5 : decode cX1_init 5 = .ok (.bipush 6, 2) := by decide +kernel
theorem dX1_init_7 : decode cX1_init 7 = .ok (.anewarray 9, 3) := by decide +kernel
theorem dX1_init_10 : decode cX1_init 10 = .ok (.putfield 11, 3) := by decide +kernel
theorem dX1_init_13 : decode cX1_init 13 = .ok (.aload_n 0, 1) := by decide +kernel
theorem dX1_init_14 : decode cX1_init 14 = .ok (.iconst 0, 1) := by decide +kernel
theorem dX1_init_15 : decode cX1_init 15 = .ok (.putfield 17, 3) := by decide +kernel
theorem dX1_init_18 : decode cX1_init 18 = .ok (.aload_n 0, 1) := by decide +kernel
theorem dX1_init_19 : decode cX1_init 19 = .ok (.iconst 0, 1) := by decide +kernel
theorem dX1_init_20 : decode cX1_init 20 = .ok (.putfield 21, 3) := by decide +kernel
theorem dX1_init_23 : decode cX1_init 23 = .ok (.iconst 0, 1) := by decide +kernel
theorem dX1_init_24 : decode cX1_init 24 = .ok (.istore_n 1, 1) := by decide +kernel
theorem dX1_init_25 : decode cX1_init 25 = .ok (.iload_n 1, 1) := by decide +kernel
theorem dX1_init_26 : decode cX1_init 26 = .ok (.bipush 6, 2) := by decide +kernel
theorem dX1_init_28 : decode cX1_init 28 = .ok (.if_icmp .ge 22, 3) := by decide +kernel
theorem dX1_init_31 : decode cX1_init 31 = .ok (.aload_n 0, 1) := by decide +kernel
theorem dX1_init_32 : decode cX1_init 32 = .ok (.getfield 11, 3) := by decide +kernel
theorem dX1_init_35 : decode cX1_init 35 = .ok (.iload_n 1, 1) := by decide +kernel
theorem dX1_init_36 : decode cX1_init 36 = .ok (.new 9, 3) := by decide +kernel
theorem dX1_init_39 : decode cX1_init 39 = .ok (.dup, 1) := by decide +kernel
theorem dX1_init_40 : decode cX1_init 40 = .ok (.invokespecial 24, 3) := by decide +kernel
theorem dX1_init_43 : decode cX1_init 43 = .ok (.aastore, 1) := by decide +kernel
theorem dX1_init_44 : decode cX1_init 44 = .ok (.iinc 1 1, 3) := by decide +kernel
theorem dX1_init_47 : decode cX1_init 47 = .ok (.goto (-22), 3) := by decide +kernel
theorem dX1_init_50 : decode cX1_init 50 = .ok (.return_, 1) := by decide +kernel
theorem dX1_keep_0 : decode cX1_keep 0 = .ok (.aload_n 0, 1) := by decide +kernel
theorem dX1_keep_1 : decode cX1_keep 1 = .ok (.getfield 11, 3) := by decide +kernel
theorem dX1_keep_4 : decode cX1_keep 4 = .ok (.aload_n 0, 1) := by decide +kernel
theorem dX1_keep_5 : decode cX1_keep 5 = .ok (.getfield 17, 3) := by decide +kernel
theorem dX1_keep_8 : decode cX1_keep 8 = .ok (.aaload, 1) := by decide +kernel
theorem dX1_keep_9 : decode cX1_keep 9 = .ok (.aload_n 1, 1) := by decide +kernel
theorem dX1_keep_10 : decode cX1_keep 10 = .ok (.invokevirtual 25, 3) := by decide +kernel
theorem dX1_keep_13 : decode cX1_keep 13 = .ok (.aload_n 0, 1) := by decide +kernel
theorem dX1_keep_14 : decode cX1_keep 14 = .ok (.aload_n 0, 1) := by decide +kernel
theorem dX1_keep_15 : decode cX1_keep 15 = .ok (.getfield 17, 3) := by decide +kernel
theorem dX1_keep_18 : decode cX1_keep 18 = .ok (.iconst 1, 1) := by decide +kernel
theorem dX1_keep_19 : decode cX1_keep 19 = .ok (.iadd, 1) := by decide +kernel
theorem dX1_keep_20 : decode cX1_keep 20 = .ok (.bipush 6, 2) := by decide +kernel
theorem dX1_keep_22 : decode cX1_keep 22 = .ok (.irem, 1) := by decide +kernel
theorem dX1_keep_23 : decode cX1_keep 23 = .ok (.putfield 17, 3) := by decide +kernel
theorem dX1_keep_26 : decode cX1_keep 26 = .ok (.aload_n 0, 1) := by decide +kernel
theorem dX1_keep_27 : decode cX1_keep 27 = .ok (.aload_n 0, 1) := by decide +kernel
theorem dX1_keep_28 : decode cX1_keep 28 = .ok (.getfield 21, 3) := by decide +kernel
theorem dX1_keep_31 : decode cX1_keep 31 = .ok (.iconst 1, 1) := by decide +kernel
theorem dX1_keep_32 : decode cX1_keep 32 = .ok (.iadd, 1) := by decide +kernel
theorem dX1_keep_33 : decode cX1_keep 33 = .ok (.bipush 6, 2) := by decide +kernel
theorem dX1_keep_35 : decode cX1_keep 35 = .ok (.invokestatic 29, 3) := by decide +kernel
theorem dX1_keep_38 : decode cX1_keep 38 = .ok (.putfield 21, 3) := by decide +kernel
theorem dX1_keep_41 : decode cX1_keep 41 = .ok (.return_, 1) := by decide +kernel
theorem dX1_takeBack_0 : decode cX1_takeBack 0 = .ok (.aload_n 0, 1) := by decide +kernel
theorem dX1_takeBack_1 : decode cX1_takeBack 1 = .ok (.aload_n 0, 1) := by decide +kernel
theorem dX1_takeBack_2 : decode cX1_takeBack 2 = .ok (.getfield 17, 3) := by decide +kernel
theorem dX1_takeBack_5 : decode cX1_takeBack 5 = .ok (.bipush 6, 2) := by decide +kernel
theorem dX1_takeBack_7 : decode cX1_takeBack 7 = .ok (.iadd, 1) := by decide +kernel
theorem dX1_takeBack_8 : decode cX1_takeBack 8 = .ok (.iconst 1, 1) := by decide +kernel
theorem dX1_takeBack_9 : decode cX1_takeBack 9 = .ok (.isub, 1) := by decide +kernel
theorem dX1_takeBack_10 : decode cX1_takeBack 10 = .ok (.bipush 6, 2) := by decide +kernel
theorem dX1_takeBack_12 : decode cX1_takeBack 12 = .ok (.irem, 1) := by decide +kernel
theorem dX1_takeBack_13 : decode cX1_takeBack 13 = .ok (.putfield 17, 3) := by decide +kernel
theorem dX1_takeBack_16 : decode cX1_takeBack 16 = .ok (.aload_n 0, 1) := by decide +kernel
theorem dX1_takeBack_17 : decode cX1_takeBack 17 = .ok (.dup, 1) := by decide +kernel
theorem dX1_takeBack_18 : decode cX1_takeBack 18 = .ok (.getfield 21, 3) := by decide +kernel
theorem dX1_takeBack_21 : decode cX1_takeBack 21 = .ok (.iconst 1, 1) := by decide +kernel
theorem dX1_takeBack_22 : decode cX1_takeBack 22 = .ok (.isub, 1) := by decide +kernel
theorem dX1_takeBack_23 : decode cX1_takeBack 23 = .ok (.putfield 21, 3) := by decide +kernel
theorem dX1_takeBack_26 : decode cX1_takeBack 26 = .ok (.aload_n 1, 1) := by decide +kernel
theorem dX1_takeBack_27 : decode cX1_takeBack 27 = .ok (.aload_n 0, 1) := by decide +kernel
theorem dX1_takeBack_28 : decode cX1_takeBack 28 = .ok (.getfield 11, 3) := by decide +kernel
theorem dX1_takeBack_31 : decode cX1_takeBack 31 = .ok (.aload_n 0, 1) := by decide +kernel
theorem dX1_takeBack_32 : decode cX1_takeBack 32 = .ok (.getfield 17, 3) := by decide +kernel
theorem dX1_takeBack_35 : decode cX1_takeBack 35 = .ok (.aaload, 1) := by decide +kernel
theorem dX1_takeBack_36 : decode cX1_takeBack 36 = .ok (.invokevirtual 25, 3) := by decide +kernel
theorem dX1_takeBack_39 : decode cX1_takeBack 39 = .ok (.return_, 1) := by decide +kernel
theorem dX1_forget_0 : decode cX1_forget 0 = .ok (.aload_n 0, 1) := by decide +kernel
theorem dX1_forget_1 : decode cX1_forget 1 = .ok (.iconst 0, 1) := by decide +kernel
theorem dX1_forget_2 : decode cX1_forget 2 = .ok (.putfield 21, 3) := by decide +kernel
theorem dX1_forget_5 : decode cX1_forget 5 = .ok (.return_, 1) := by decide +kernel
theorem dX2_init_0 : decode cX2_init 0 = .ok (.aload_n 0, 1) := by decide +kernel
theorem dX2_init_1 : decode cX2_init 1 = .ok (.invokespecial 3, 3) := by decide +kernel
theorem dX2_init_4 : decode cX2_init 4 = .ok (.aload_n 0, 1) := by decide +kernel
theorem dX2_init_5 : decode cX2_init 5 = .ok (.iconst 0, 1) := by decide +kernel
theorem dX2_init_6 : decode cX2_init 6 = .ok (.putfield 9, 3) := by decide +kernel
theorem dX2_init_9 : decode cX2_init 9 = .ok (.aload_n 0, 1) := by decide +kernel
theorem dX2_init_10 : decode cX2_init 10 = .ok (.iconst 0, 1) := by decide +kernel
theorem dX2_init_11 : decode cX2_init 11 = .ok (.putfield 15, 3) := by decide +kernel
theorem dX2_init_14 : decode cX2_init 14 = .ok (.aload_n 0, 1) := by decide +kernel
theorem dX2_init_15 : decode cX2_init 15 = .ok (.iconst 0, 1) := by decide +kernel
theorem dX2_init_16 : decode cX2_init 16 = .ok (.putfield 19, 3) := by decide +kernel
theorem dX2_init_19 : decode cX2_init 19 = .ok (.aload_n 0, 1) := by decide +kernel
theorem dX2_init_20 : decode cX2_init 20 = .ok (.bipush 28, 2) := by decide +kernel
theorem dX2_init_22 : decode cX2_init 22 = .ok (.newarray .int, 2) := by decide +kernel
theorem dX2_init_24 : decode cX2_init 24 = .ok (.putfield 22, 3) := by decide +kernel
theorem dX2_init_27 : decode cX2_init 27 = .ok (.return_, 1) := by decide +kernel
theorem dX2_copyFrom_0 : decode cX2_copyFrom 0 = .ok (.aload_n 0, 1) := by decide +kernel
theorem dX2_copyFrom_1 : decode cX2_copyFrom 1 = .ok (.aload_n 1, 1) := by decide +kernel
theorem dX2_copyFrom_2 : decode cX2_copyFrom 2 = .ok (.getfield 9, 3) := by decide +kernel
theorem dX2_copyFrom_5 : decode cX2_copyFrom 5 = .ok (.putfield 9, 3) := by decide +kernel
theorem dX2_copyFrom_8 : decode cX2_copyFrom 8 = .ok (.aload_n 0, 1) := by decide +kernel
theorem dX2_copyFrom_9 : decode cX2_copyFrom 9 = .ok (.aload_n 1, 1) := by decide +kernel
theorem dX2_copyFrom_10 : decode cX2_copyFrom 10 = .ok (.getfield 15, 3) := by decide +kernel
theorem dX2_copyFrom_13 : decode cX2_copyFrom 13 = .ok (.putfield 15, 3) := by decide +kernel
theorem dX2_copyFrom_16 : decode cX2_copyFrom 16 = .ok (.aload_n 0, 1) := by decide +kernel
theorem dX2_copyFrom_17 : decode cX2_copyFrom 17 = .ok (.aload_n 1, 1) := by decide +kernel
theorem dX2_copyFrom_18 : decode cX2_copyFrom 18 = .ok (.getfield 19, 3) := by decide +kernel
theorem dX2_copyFrom_21 : decode cX2_copyFrom 21 = .ok (.putfield 19, 3) := by decide +kernel
theorem dX2_copyFrom_24 : decode cX2_copyFrom 24 = .ok (.aload_n 1, 1) := by decide +kernel
theorem dX2_copyFrom_25 : decode cX2_copyFrom 25 = .ok (.getfield 22, 3) := by decide +kernel
theorem dX2_copyFrom_28 : decode cX2_copyFrom 28 = .ok (.iconst 0, 1) := by decide +kernel
theorem dX2_copyFrom_29 : decode cX2_copyFrom 29 = .ok (.aload_n 0, 1) := by decide +kernel
theorem dX2_copyFrom_30 : decode cX2_copyFrom 30 = .ok (.getfield 22, 3) := by decide +kernel
theorem dX2_copyFrom_33 : decode cX2_copyFrom 33 = .ok (.iconst 0, 1) := by decide +kernel
theorem dX2_copyFrom_34 : decode cX2_copyFrom 34 = .ok (.aload_n 1, 1) := by decide +kernel
theorem dX2_copyFrom_35 : decode cX2_copyFrom 35 = .ok (.getfield 19, 3) := by decide +kernel
theorem dX2_copyFrom_38 : decode cX2_copyFrom 38 = .ok (.invokestatic 26, 3) := by decide +kernel
theorem dX2_copyFrom_41 : decode cX2_copyFrom 41 = .ok (.return_, 1) := by decide +kernel
theorem dX2_start_0 : decode cX2_start 0 = .ok (.aload_n 0, 1) := by decide +kernel
theorem dX2_start_1 : decode cX2_start 1 = .ok (.iconst 1, 1) := by decide +kernel
theorem dX2_start_2 : decode cX2_start 2 = .ok (.putfield 9, 3) := by decide +kernel
theorem dX2_start_5 : decode cX2_start 5 = .ok (.aload_n 0, 1) := by decide +kernel
theorem dX2_start_6 : decode cX2_start 6 = .ok (.iload_n 1, 1) := by decide +kernel
theorem dX2_start_7 : decode cX2_start 7 = .ok (.putfield 15, 3) := by decide +kernel
theorem dX2_start_10 : decode cX2_start 10 = .ok (.aload_n 0, 1) := by decide +kernel
theorem dX2_start_11 : decode cX2_start 11 = .ok (.iconst 0, 1) := by decide +kernel
theorem dX2_start_12 : decode cX2_start 12 = .ok (.putfield 19, 3) := by decide +kernel
theorem dX2_start_15 : decode cX2_start 15 = .ok (.return_, 1) := by decide +kernel
theorem dX2_append_0 : decode cX2_append 0 = .ok (.aload_n 0, 1) := by decide +kernel
theorem dX2_append_1 : decode cX2_append 1 = .ok (.getfield 22, 3) := by decide +kernel
theorem dX2_append_4 : decode cX2_append 4 = .ok (.aload_n 0, 1) := by decide +kernel
theorem dX2_append_5 : decode cX2_append 5 = .ok (.getfield 19, 3) := by decide +kernel
theorem dX2_append_8 : decode cX2_append 8 = .ok (.iload_n 1, 1) := by decide +kernel
theorem dX2_append_9 : decode cX2_append 9 = .ok (.iastore, 1) := by decide +kernel
theorem dX2_append_10 : decode cX2_append 10 = .ok (.aload_n 0, 1) := by decide +kernel
theorem dX2_append_11 : decode cX2_append 11 = .ok (.dup, 1) := by decide +kernel
theorem dX2_append_12 : decode cX2_append 12 = .ok (.getfield 19, 3) := by decide +kernel
theorem dX2_append_15 : decode cX2_append 15 = .ok (.iconst 1, 1) := by decide +kernel
theorem dX2_append_16 : decode cX2_append 16 = .ok (.iadd, 1) := by decide +kernel
theorem dX2_append_17 : decode cX2_append 17 = .ok (.putfield 19, 3) := by decide +kernel
theorem dX2_append_20 : decode cX2_append 20 = .ok (.return_, 1) := by decide +kernel
theorem dX3_init_0 : decode cX3_init 0 = .ok (.aload_n 0, 1) := by decide +kernel
theorem dX3_init_1 : decode cX3_init 1 = .ok (.invokespecial 3, 3) := by decide +kernel
theorem dX3_init_4 : decode cX3_init 4 = .ok (.aload_n 0, 1) := by decide +kernel
theorem dX3_init_5 : decode cX3_init 5 = .ok (.iconst 0, 1) := by decide +kernel
theorem dX3_init_6 : decode cX3_init 6 = .ok (.putfield 9, 3) := by decide +kernel
theorem dX3_init_9 : decode cX3_init 9 = .ok (.aload_n 0, 1) := by decide +kernel
theorem dX3_init_10 : decode cX3_init 10 = .ok (.iconst 0, 1) := by decide +kernel
theorem dX3_init_11 : decode cX3_init 11 = .ok (.putfield 15, 3) := by decide +kernel
theorem dX3_init_14 : decode cX3_init 14 = .ok (.aload_n 0, 1) := by decide +kernel
theorem dX3_init_15 : decode cX3_init 15 = .ok (.iconst 0, 1) := by decide +kernel
theorem dX3_init_16 : decode cX3_init 16 = .ok (.putfield 18, 3) := by decide +kernel
theorem dX3_init_19 : decode cX3_init 19 = .ok (.aload_n 0, 1) := by decide +kernel
theorem dX3_init_20 : decode cX3_init 20 = .ok (.bipush 8, 2) := by decide +kernel
theorem dX3_init_22 : decode cX3_init 22 = .ok (.newarray .int, 2) := by decide +kernel
theorem dX3_init_24 : decode cX3_init 24 = .ok (.putfield 21, 3) := by decide +kernel
theorem dX3_init_27 : decode cX3_init 27 = .ok (.aload_n 0, 1) := by decide +kernel
theorem dX3_init_28 : decode cX3_init 28 = .ok (.bipush 8, 2) := by decide +kernel
theorem dX3_init_30 : decode cX3_init 30 = .ok (.newarray .int, 2) := by decide +kernel
theorem dX3_init_32 : decode cX3_init 32 = .ok (.putfield 25, 3) := by decide +kernel
theorem dX3_init_35 : decode cX3_init 35 = .ok (.return_, 1) := by decide +kernel
theorem dX3_copyFrom_0 : decode cX3_copyFrom 0 = .ok (.aload_n 0, 1) := by decide +kernel
theorem dX3_copyFrom_1 : decode cX3_copyFrom 1 = .ok (.aload_n 1, 1) := by decide +kernel
theorem dX3_copyFrom_2 : decode cX3_copyFrom 2 = .ok (.getfield 9, 3) := by decide +kernel
theorem dX3_copyFrom_5 : decode cX3_copyFrom 5 = .ok (.putfield 9, 3) := by decide +kernel
theorem dX3_copyFrom_8 : decode cX3_copyFrom 8 = .ok (.aload_n 0, 1) := by decide +kernel
theorem dX3_copyFrom_9 : decode cX3_copyFrom 9 = .ok (.aload_n 1, 1) := by decide +kernel
theorem dX3_copyFrom_10 : decode cX3_copyFrom 10 = .ok (.getfield 15, 3) := by decide +kernel
theorem dX3_copyFrom_13 : decode cX3_copyFrom 13 = .ok (.putfield 15, 3) := by decide +kernel
theorem dX3_copyFrom_16 : decode cX3_copyFrom 16 = .ok (.aload_n 0, 1) := by decide +kernel
theorem dX3_copyFrom_17 : decode cX3_copyFrom 17 = .ok (.aload_n 1, 1) := by decide +kernel
theorem dX3_copyFrom_18 : decode cX3_copyFrom 18 = .ok (.getfield 18, 3) := by decide +kernel
theorem dX3_copyFrom_21 : decode cX3_copyFrom 21 = .ok (.putfield 18, 3) := by decide +kernel
theorem dX3_copyFrom_24 : decode cX3_copyFrom 24 = .ok (.aload_n 1, 1) := by decide +kernel
theorem dX3_copyFrom_25 : decode cX3_copyFrom 25 = .ok (.getfield 21, 3) := by decide +kernel
theorem dX3_copyFrom_28 : decode cX3_copyFrom 28 = .ok (.iconst 0, 1) := by decide +kernel
theorem dX3_copyFrom_29 : decode cX3_copyFrom 29 = .ok (.aload_n 0, 1) := by decide +kernel
theorem dX3_copyFrom_30 : decode cX3_copyFrom 30 = .ok (.getfield 21, 3) := by decide +kernel
theorem dX3_copyFrom_33 : decode cX3_copyFrom 33 = .ok (.iconst 0, 1) := by decide +kernel
theorem dX3_copyFrom_34 : decode cX3_copyFrom 34 = .ok (.aload_n 1, 1) := by decide +kernel
theorem dX3_copyFrom_35 : decode cX3_copyFrom 35 = .ok (.getfield 18, 3) := by decide +kernel
theorem dX3_copyFrom_38 : decode cX3_copyFrom 38 = .ok (.invokestatic 28, 3) := by decide +kernel
theorem dX3_copyFrom_41 : decode cX3_copyFrom 41 = .ok (.aload_n 1, 1) := by decide +kernel
theorem dX3_copyFrom_42 : decode cX3_copyFrom 42 = .ok (.getfield 25, 3) := by decide +kernel
theorem dX3_copyFrom_45 : decode cX3_copyFrom 45 = .ok (.iconst 0, 1) := by decide +kernel
theorem dX3_copyFrom_46 : decode cX3_copyFrom 46 = .ok (.aload_n 0, 1) := by decide +kernel
theorem dX3_copyFrom_47 : decode cX3_copyFrom 47 = .ok (.getfield 25, 3) := by decide +kernel
theorem dX3_copyFrom_50 : decode cX3_copyFrom 50 = .ok (.iconst 0, 1) := by decide +kernel
theorem dX3_copyFrom_51 : decode cX3_copyFrom 51 = .ok (.aload_n 1, 1) := by decide +kernel
theorem dX3_copyFrom_52 : decode cX3_copyFrom 52 = .ok (.getfield 18, 3) := by decide +kernel
theorem dX3_copyFrom_55 : decode cX3_copyFrom 55 = .ok (.invokestatic 28, 3) := by decide +kernel
theorem dX3_copyFrom_58 : decode cX3_copyFrom 58 = .ok (.return_, 1) := by decide +kernel
theorem dX3_comesBefore_0 : decode cX3_comesBefore 0 = .ok (.aload_n 0, 1) := by decide +kernel
theorem dX3_comesBefore_1 : decode cX3_comesBefore 1 = .ok (.getfield 15, 3) := by decide +kernel
theorem dX3_comesBefore_4 : decode cX3_comesBefore 4 = .ok (.aload_n 1, 1) := by decide +kernel
theorem dX3_comesBefore_5 : decode cX3_comesBefore 5 = .ok (.getfield 15, 3) := by decide +kernel
theorem dX3_comesBefore_8 : decode cX3_comesBefore 8 = .ok (.if_icmp .lt 25, 3) := by decide +kernel
theorem dX3_comesBefore_11 : decode cX3_comesBefore 11 = .ok (.aload_n 0, 1) := by decide +kernel
theorem dX3_comesBefore_12 : decode cX3_comesBefore 12 = .ok (.getfield 15, 3) := by decide +kernel
theorem dX3_comesBefore_15 : decode cX3_comesBefore 15 = .ok (.aload_n 1, 1) := by decide +kernel
theorem dX3_comesBefore_16 : decode cX3_comesBefore 16 = .ok (.getfield 15, 3) := by decide +kernel
theorem dX3_comesBefore_19 : decode cX3_comesBefore 19 = .ok (.if_icmp .ne 18, 3) := by decide +kernel
theorem dX3_comesBefore_22 : decode cX3_comesBefore 22 = .ok (.aload_n 0, 1) := by decide +kernel
theorem dX3_comesBefore_23 : decode cX3_comesBefore 23 = .ok (.getfield 9, 3) := by decide +kernel
theorem dX3_comesBefore_26 : decode cX3_comesBefore 26 = .ok (.aload_n 1, 1) := by decide +kernel
theorem dX3_comesBefore_27 : decode cX3_comesBefore 27 = .ok (.getfield 9, 3) := by decide +kernel
theorem dX3_comesBefore_30 : decode cX3_comesBefore 30 = .ok (.if_icmp .ge 7, 3) := by decide +kernel
theorem dX3_comesBefore_33 : decode cX3_comesBefore 33 = .ok (.iconst 1, 1) := by decide +kernel
theorem dX3_comesBefore_34 : decode cX3_comesBefore 34 = .ok (.goto 4, 3) := by decide +kernel
theorem dX3_comesBefore_37 : decode cX3_comesBefore 37 = .ok (.iconst 0, 1) := by decide +kernel
theorem dX3_comesBefore_38 : decode cX3_comesBefore 38 = .ok (.ireturn, 1) := by decide +kernel
theorem dX3_append_0 : decode cX3_append 0 = .ok (.aload_n 0, 1) := by decide +kernel
theorem dX3_append_1 : decode cX3_append 1 = .ok (.getfield 21, 3) := by decide +kernel
theorem dX3_append_4 : decode cX3_append 4 = .ok (.aload_n 0, 1) := by decide +kernel
theorem dX3_append_5 : decode cX3_append 5 = .ok (.getfield 18, 3) := by decide +kernel
theorem dX3_append_8 : decode cX3_append 8 = .ok (.iload_n 1, 1) := by decide +kernel
theorem dX3_append_9 : decode cX3_append 9 = .ok (.iastore, 1) := by decide +kernel
theorem dX3_append_10 : decode cX3_append 10 = .ok (.aload_n 0, 1) := by decide +kernel
theorem dX3_append_11 : decode cX3_append 11 = .ok (.getfield 25, 3) := by decide +kernel
theorem dX3_append_14 : decode cX3_append 14 = .ok (.aload_n 0, 1) := by decide +kernel
theorem dX3_append_15 : decode cX3_append 15 = .ok (.getfield 18, 3) := by decide +kernel
theorem dX3_append_18 : decode cX3_append 18 = .ok (.iload_n 2, 1) := by decide +kernel
theorem dX3_append_19 : decode cX3_append 19 = .ok (.iastore, 1) := by decide +kernel
theorem dX3_append_20 : decode cX3_append 20 = .ok (.aload_n 0, 1) := by decide +kernel
theorem dX3_append_21 : decode cX3_append 21 = .ok (.dup, 1) := by decide +kernel
theorem dX3_append_22 : decode cX3_append 22 = .ok (.getfield 18, 3) := by decide +kernel
theorem dX3_append_25 : decode cX3_append 25 = .ok (.iconst 1, 1) := by decide +kernel
theorem dX3_append_26 : decode cX3_append 26 = .ok (.iadd, 1) := by decide +kernel
theorem dX3_append_27 : decode cX3_append 27 = .ok (.putfield 18, 3) := by decide +kernel
theorem dX3_append_30 : decode cX3_append 30 = .ok (.return_, 1) := by decide +kernel
theorem dX3_length_0 : decode cX3_length 0 = .ok (.iconst 0, 1) := by decide +kernel
theorem dX3_length_1 : decode cX3_length 1 = .ok (.istore_n 1, 1) := by decide +kernel
theorem dX3_length_2 : decode cX3_length 2 = .ok (.iconst 0, 1) := by decide +kernel
theorem dX3_length_3 : decode cX3_length 3 = .ok (.istore_n 2, 1) := by decide +kernel
theorem dX3_length_4 : decode cX3_length 4 = .ok (.iload_n 2, 1) := by decide +kernel
theorem dX3_length_5 : decode cX3_length 5 = .ok (.aload_n 0, 1) := by decide +kernel
theorem dX3_length_6 : decode cX3_length 6 = .ok (.getfield 18, 3) := by decide +kernel
theorem dX3_length_9 : decode cX3_length 9 = .ok (.if_icmp .ge 18, 3) := by decide +kernel
theorem dX3_length_12 : decode cX3_length 12 = .ok (.iload_n 1, 1) := by decide +kernel
theorem dX3_length_13 : decode cX3_length 13 = .ok (.aload_n 0, 1) := by decide +kernel
theorem dX3_length_14 : decode cX3_length 14 = .ok (.getfield 21, 3) := by decide +kernel
theorem dX3_length_17 : decode cX3_length 17 = .ok (.iload_n 2, 1) := by decide +kernel
theorem dX3_length_18 : decode cX3_length 18 = .ok (.iaload, 1) := by decide +kernel
theorem dX3_length_19 : decode cX3_length 19 = .ok (.iadd, 1) := by decide +kernel
theorem dX3_length_20 : decode cX3_length 20 = .ok (.istore_n 1, 1) := by decide +kernel
theorem dX3_length_21 : decode cX3_length 21 = .ok (.iinc 2 1, 3) := by decide +kernel
theorem dX3_length_24 : decode cX3_length 24 = .ok (.goto (-20), 3) := by decide +kernel
theorem dX3_length_27 : decode cX3_length 27 = .ok (.iload_n 1, 1) := by decide +kernel
theorem dX3_length_28 : decode cX3_length 28 = .ok (.ireturn, 1) := by decide +kernel
theorem dX4_init_0 : decode cX4_init 0 = .ok (.aload_n 0, 1) := by decide +kernel
theorem dX4_init_1 : decode cX4_init 1 = .ok (.invokespecial 3, 3) := by decide +kernel
theorem dX4_init_4 : decode cX4_init 4 = .ok (.aload_n 0, 1) := by decide +kernel
theorem dX4_init_5 : decode cX4_init 5 = .ok (.bipush 40, 2) := by decide +kernel
theorem dX4_init_7 : decode cX4_init 7 = .ok (.anewarray 9, 3) := by decide +kernel
theorem dX4_init_10 : decode cX4_init 10 = .ok (.putfield 11, 3) := by decide +kernel
theorem dX4_init_13 : decode cX4_init 13 = .ok (.aload_n 0, 1) := by decide +kernel
theorem dX4_init_14 : decode cX4_init 14 = .ok (.iconst 0, 1) := by decide +kernel
theorem dX4_init_15 : decode cX4_init 15 = .ok (.putfield 17, 3) := by decide +kernel
theorem dX4_init_18 : decode cX4_init 18 = .ok (.aload_n 0, 1) := by decide +kernel
theorem dX4_init_19 : decode cX4_init 19 = .ok (.iconst 0, 1) := by decide +kernel
theorem dX4_init_20 : decode cX4_init 20 = .ok (.putfield 21, 3) := by decide +kernel
theorem dX4_init_23 : decode cX4_init 23 = .ok (.iconst 0, 1) := by decide +kernel
theorem dX4_init_24 : decode cX4_init 24 = .ok (.istore_n 1, 1) := by decide +kernel
theorem dX4_init_25 : decode cX4_init 25 = .ok (.iload_n 1, 1) := by decide +kernel
theorem dX4_init_26 : decode cX4_init 26 = .ok (.bipush 40, 2) := by decide +kernel
theorem dX4_init_28 : decode cX4_init 28 = .ok (.if_icmp .ge 22, 3) := by decide +kernel
theorem dX4_init_31 : decode cX4_init 31 = .ok (.aload_n 0, 1) := by decide +kernel
theorem dX4_init_32 : decode cX4_init 32 = .ok (.getfield 11, 3) := by decide +kernel
theorem dX4_init_35 : decode cX4_init 35 = .ok (.iload_n 1, 1) := by decide +kernel
theorem dX4_init_36 : decode cX4_init 36 = .ok (.new 9, 3) := by decide +kernel
theorem dX4_init_39 : decode cX4_init 39 = .ok (.dup, 1) := by decide +kernel
theorem dX4_init_40 : decode cX4_init 40 = .ok (.invokespecial 24, 3) := by decide +kernel
theorem dX4_init_43 : decode cX4_init 43 = .ok (.aastore, 1) := by decide +kernel
theorem dX4_init_44 : decode cX4_init 44 = .ok (.iinc 1 1, 3) := by decide +kernel
theorem dX4_init_47 : decode cX4_init 47 = .ok (.goto (-22), 3) := by decide +kernel
theorem dX4_init_50 : decode cX4_init 50 = .ok (.return_, 1) := by decide +kernel
theorem dX4_copyFrom_0 : decode cX4_copyFrom 0 = .ok (.iconst 0, 1) := by decide +kernel
theorem dX4_copyFrom_1 : decode cX4_copyFrom 1 = .ok (.istore_n 2, 1) := by decide +kernel
theorem dX4_copyFrom_2 : decode cX4_copyFrom 2 = .ok (.iload_n 2, 1) := by decide +kernel
theorem dX4_copyFrom_3 : decode cX4_copyFrom 3 = .ok (.aload_n 1, 1) := by decide +kernel
theorem dX4_copyFrom_4 : decode cX4_copyFrom 4 = .ok (.getfield 17, 3) := by decide +kernel
theorem dX4_copyFrom_7 : decode cX4_copyFrom 7 = .ok (.if_icmp .ge 24, 3) := by decide +kernel
theorem dX4_copyFrom_10 : decode cX4_copyFrom 10 = .ok (.aload_n 0, 1) := by decide +kernel
theorem dX4_copyFrom_11 : decode cX4_copyFrom 11 = .ok (.getfield 11, 3) := by decide +kernel
theorem dX4_copyFrom_14 : decode cX4_copyFrom 14 = .ok (.iload_n 2, 1) := by decide +kernel
theorem dX4_copyFrom_15 : decode cX4_copyFrom 15 = .ok (.aaload, 1) := by decide +kernel
theorem dX4_copyFrom_16 : decode cX4_copyFrom 16 = .ok (.aload_n 1, 1) := by decide +kernel
theorem dX4_copyFrom_17 : decode cX4_copyFrom 17 = .ok (.getfield 11, 3) := by decide +kernel
theorem dX4_copyFrom_20 : decode cX4_copyFrom 20 = .ok (.iload_n 2, 1) := by decide +kernel
theorem dX4_copyFrom_21 : decode cX4_copyFrom 21 = .ok (.aaload, 1) := by decide +kernel
theorem dX4_copyFrom_22 : decode cX4_copyFrom 22 = .ok (.invokevirtual 25, 3) := by decide +kernel
theorem dX4_copyFrom_25 : decode cX4_copyFrom 25 = .ok (.iinc 2 1, 3) := by decide +kernel
theorem dX4_copyFrom_28 : decode cX4_copyFrom 28 = .ok (.goto (-26), 3) := by decide +kernel
theorem dX4_copyFrom_31 : decode cX4_copyFrom 31 = .ok (.aload_n 0, 1) := by decide +kernel
theorem dX4_copyFrom_32 : decode cX4_copyFrom 32 = .ok (.aload_n 1, 1) := by decide +kernel
theorem dX4_copyFrom_33 : decode cX4_copyFrom 33 = .ok (.getfield 17, 3) := by decide +kernel
theorem dX4_copyFrom_36 : decode cX4_copyFrom 36 = .ok (.putfield 17, 3) := by decide +kernel
theorem dX4_copyFrom_39 : decode cX4_copyFrom 39 = .ok (.aload_n 0, 1) := by decide +kernel
theorem dX4_copyFrom_40 : decode cX4_copyFrom 40 = .ok (.aload_n 1, 1) := by decide +kernel
theorem dX4_copyFrom_41 : decode cX4_copyFrom 41 = .ok (.getfield 21, 3) := by decide +kernel
theorem dX4_copyFrom_44 : decode cX4_copyFrom 44 = .ok (.putfield 21, 3) := by decide +kernel
theorem dX4_copyFrom_47 : decode cX4_copyFrom 47 = .ok (.return_, 1) := by decide +kernel
theorem dX4_positionWithId_0 : decode cX4_positionWithId 0 = .ok (.iconst 0, 1) := by decide +kernel
theorem dX4_positionWithId_1 : decode cX4_positionWithId 1 = .ok (.istore_n 2, 1) := by decide +kernel
theorem dX4_positionWithId_2 : decode cX4_positionWithId 2 = .ok (.iload_n 2, 1) := by decide +kernel
theorem dX4_positionWithId_3 : decode cX4_positionWithId 3 = .ok (.aload_n 0, 1) := by decide +kernel
theorem dX4_positionWithId_4 : decode cX4_positionWithId 4 = .ok (.getfield 17, 3) := by decide +kernel
theorem dX4_positionWithId_7 : decode cX4_positionWithId 7 = .ok (.if_icmp .ge 24, 3) := by decide +kernel
theorem dX4_positionWithId_10 : decode cX4_positionWithId 10 = .ok (.aload_n 0, 1) := by decide +kernel
theorem dX4_positionWithId_11 : decode cX4_positionWithId 11 = .ok (.getfield 11, 3) := by decide +kernel
theorem dX4_positionWithId_14 : decode cX4_positionWithId 14 = .ok (.iload_n 2, 1) := by decide +kernel
theorem dX4_positionWithId_15 : decode cX4_positionWithId 15 = .ok (.aaload, 1) := by decide +kernel
theorem dX4_positionWithId_16 : decode cX4_positionWithId 16 = .ok (.getfield 29, 3) := by decide +kernel
theorem dX4_positionWithId_19 : decode cX4_positionWithId 19 = .ok (.iload_n 1, 1) := by decide +kernel
theorem dX4_positionWithId_20 : decode cX4_positionWithId 20 = .ok (.if_icmp .ne 5, 3) := by decide +kernel
theorem dX4_positionWithId_23 : decode cX4_positionWithId 23 = .ok (.iload_n 2, 1) := by decide +kernel
theorem dX4_positionWithId_24 : decode cX4_positionWithId 24 = .ok (.ireturn, 1) := by decide +kernel
theorem dX4_positionWithId_25 : decode cX4_positionWithId 25 = .ok (.iinc 2 1, 3) := by decide +kernel
theorem dX4_positionWithId_28 : decode cX4_positionWithId 28 = .ok (.goto (-26), 3) := by decide +kernel
theorem dX4_positionWithId_31 : decode cX4_positionWithId 31 = .ok (.iconst (-1), 1) := by decide +kernel
theorem dX4_positionWithId_32 : decode cX4_positionWithId 32 = .ok (.ireturn, 1) := by decide +kernel
theorem dX4_anyOn_0 : decode cX4_anyOn 0 = .ok (.iconst 0, 1) := by decide +kernel
theorem dX4_anyOn_1 : decode cX4_anyOn 1 = .ok (.istore_n 2, 1) := by decide +kernel
theorem dX4_anyOn_2 : decode cX4_anyOn 2 = .ok (.iload_n 2, 1) := by decide +kernel
theorem dX4_anyOn_3 : decode cX4_anyOn 3 = .ok (.aload_n 0, 1) := by decide +kernel
theorem dX4_anyOn_4 : decode cX4_anyOn 4 = .ok (.getfield 17, 3) := by decide +kernel
theorem dX4_anyOn_7 : decode cX4_anyOn 7 = .ok (.if_icmp .ge 24, 3) := by decide +kernel
theorem dX4_anyOn_10 : decode cX4_anyOn 10 = .ok (.aload_n 0, 1) := by decide +kernel
theorem dX4_anyOn_11 : decode cX4_anyOn 11 = .ok (.getfield 11, 3) := by decide +kernel
theorem dX4_anyOn_14 : decode cX4_anyOn 14 = .ok (.iload_n 2, 1) := by decide +kernel
theorem dX4_anyOn_15 : decode cX4_anyOn 15 = .ok (.aaload, 1) := by decide +kernel
theorem dX4_anyOn_16 : decode cX4_anyOn 16 = .ok (.getfield 32, 3) := by decide +kernel
theorem dX4_anyOn_19 : decode cX4_anyOn 19 = .ok (.iload_n 1, 1) := by decide +kernel
theorem dX4_anyOn_20 : decode cX4_anyOn 20 = .ok (.if_icmp .ne 5, 3) := by decide +kernel
theorem dX4_anyOn_23 : decode cX4_anyOn 23 = .ok (.iconst 1, 1) := by decide +kernel
theorem dX4_anyOn_24 : decode cX4_anyOn 24 = .ok (.ireturn, 1) := by decide +kernel
theorem dX4_anyOn_25 : decode cX4_anyOn 25 = .ok (.iinc 2 1, 3) := by decide +kernel
theorem dX4_anyOn_28 : decode cX4_anyOn 28 = .ok (.goto (-26), 3) := by decide +kernel
theorem dX4_anyOn_31 : decode cX4_anyOn 31 = .ok (.iconst 0, 1) := by decide +kernel
theorem dX4_anyOn_32 : decode cX4_anyOn 32 = .ok (.ireturn, 1) := by decide +kernel
theorem dX4_add_0 : decode cX4_add 0 = .ok (.aload_n 0, 1) := by decide +kernel
theorem dX4_add_1 : decode cX4_add 1 = .ok (.getfield 11, 3) := by decide +kernel
theorem dX4_add_4 : decode cX4_add 4 = .ok (.aload_n 0, 1) := by decide +kernel
theorem dX4_add_5 : decode cX4_add 5 = .ok (.getfield 17, 3) := by decide +kernel
theorem dX4_add_8 : decode cX4_add 8 = .ok (.aaload, 1) := by decide +kernel
theorem dX4_add_9 : decode cX4_add 9 = .ok (.astore_n 2, 1) := by decide +kernel
theorem dX4_add_10 : decode cX4_add 10 = .ok (.aload_n 2, 1) := by decide +kernel
theorem dX4_add_11 : decode cX4_add 11 = .ok (.aload_n 0, 1) := by decide +kernel
theorem dX4_add_12 : decode cX4_add 12 = .ok (.getfield 21, 3) := by decide +kernel
theorem dX4_add_15 : decode cX4_add 15 = .ok (.putfield 29, 3) := by decide +kernel
theorem dX4_add_18 : decode cX4_add 18 = .ok (.aload_n 2, 1) := by decide +kernel
theorem dX4_add_19 : decode cX4_add 19 = .ok (.iload_n 1, 1) := by decide +kernel
theorem dX4_add_20 : decode cX4_add 20 = .ok (.putfield 32, 3) := by decide +kernel
theorem dX4_add_23 : decode cX4_add 23 = .ok (.aload_n 2, 1) := by decide +kernel
theorem dX4_add_24 : decode cX4_add 24 = .ok (.iconst 0, 1) := by decide +kernel
theorem dX4_add_25 : decode cX4_add 25 = .ok (.putfield 39, 3) := by decide +kernel
theorem dX4_add_28 : decode cX4_add 28 = .ok (.aload_n 0, 1) := by decide +kernel
theorem dX4_add_29 : decode cX4_add 29 = .ok (.dup, 1) := by decide +kernel
theorem dX4_add_30 : decode cX4_add 30 = .ok (.getfield 17, 3) := by decide +kernel
theorem dX4_add_33 : decode cX4_add 33 = .ok (.iconst 1, 1) := by decide +kernel
theorem dX4_add_34 : decode cX4_add 34 = .ok (.iadd, 1) := by decide +kernel
theorem dX4_add_35 : decode cX4_add 35 = .ok (.putfield 17, 3) := by decide +kernel
theorem dX4_add_38 : decode cX4_add 38 = .ok (.aload_n 0, 1) := by decide +kernel
theorem dX4_add_39 : decode cX4_add 39 = .ok (.dup, 1) := by decide +kernel
theorem dX4_add_40 : decode cX4_add 40 = .ok (.getfield 21, 3) := by decide +kernel
theorem dX4_add_43 : decode cX4_add 43 = .ok (.iconst 1, 1) := by decide +kernel
theorem dX4_add_44 : decode cX4_add 44 = .ok (.iadd, 1) := by decide +kernel
theorem dX4_add_45 : decode cX4_add 45 = .ok (.putfield 21, 3) := by decide +kernel
theorem dX4_add_48 : decode cX4_add 48 = .ok (.aload_n 0, 1) := by decide +kernel
theorem dX4_add_49 : decode cX4_add 49 = .ok (.aload_n 0, 1) := by decide +kernel
theorem dX4_add_50 : decode cX4_add 50 = .ok (.getfield 17, 3) := by decide +kernel
theorem dX4_add_53 : decode cX4_add 53 = .ok (.iconst 1, 1) := by decide +kernel
theorem dX4_add_54 : decode cX4_add 54 = .ok (.isub, 1) := by decide +kernel
theorem dX4_add_55 : decode cX4_add 55 = .ok (.invokevirtual 42, 3) := by decide +kernel
theorem dX4_add_58 : decode cX4_add 58 = .ok (.aload_n 2, 1) := by decide +kernel
theorem dX4_add_59 : decode cX4_add 59 = .ok (.getfield 29, 3) := by decide +kernel
theorem dX4_add_62 : decode cX4_add 62 = .ok (.ireturn, 1) := by decide +kernel
theorem dX4_moveAt_0 : decode cX4_moveAt 0 = .ok (.aload_n 0, 1) := by decide +kernel
theorem dX4_moveAt_1 : decode cX4_moveAt 1 = .ok (.getfield 11, 3) := by decide +kernel
theorem dX4_moveAt_4 : decode cX4_moveAt 4 = .ok (.iload_n 1, 1) := by decide +kernel
theorem dX4_moveAt_5 : decode cX4_moveAt 5 = .ok (.aaload, 1) := by decide +kernel
theorem dX4_moveAt_6 : decode cX4_moveAt 6 = .ok (.getfield 32, 3) := by decide +kernel
theorem dX4_moveAt_9 : decode cX4_moveAt 9 = .ok (.istore_n 3, 1) := by decide +kernel
theorem dX4_moveAt_10 : decode cX4_moveAt 10 = .ok (.aload_n 0, 1) := by decide +kernel
theorem dX4_moveAt_11 : decode cX4_moveAt 11 = .ok (.getfield 11, 3) := by decide +kernel
theorem dX4_moveAt_14 : decode cX4_moveAt 14 = .ok (.iload_n 1, 1) := by decide +kernel
theorem dX4_moveAt_15 : decode cX4_moveAt 15 = .ok (.aaload, 1) := by decide +kernel
theorem dX4_moveAt_16 : decode cX4_moveAt 16 = .ok (.iload_n 2, 1) := by decide +kernel
theorem dX4_moveAt_17 : decode cX4_moveAt 17 = .ok (.putfield 32, 3) := by decide +kernel
theorem dX4_moveAt_20 : decode cX4_moveAt 20 = .ok (.aload_n 0, 1) := by decide +kernel
theorem dX4_moveAt_21 : decode cX4_moveAt 21 = .ok (.iload_n 1, 1) := by decide +kernel
theorem dX4_moveAt_22 : decode cX4_moveAt 22 = .ok (.invokevirtual 42, 3) := by decide +kernel
theorem dX4_moveAt_25 : decode cX4_moveAt 25 = .ok (.iload_n 3, 1) := by decide +kernel
theorem dX4_moveAt_26 : decode cX4_moveAt 26 = .ok (.ireturn, 1) := by decide +kernel
theorem dX4_removeAt_0 : decode cX4_removeAt 0 = .ok (.aload_n 0, 1) := by decide +kernel
theorem dX4_removeAt_1 : decode cX4_removeAt 1 = .ok (.getfield 11, 3) := by decide +kernel
theorem dX4_removeAt_4 : decode cX4_removeAt 4 = .ok (.iload_n 1, 1) := by decide +kernel
theorem dX4_removeAt_5 : decode cX4_removeAt 5 = .ok (.aaload, 1) := by decide +kernel
theorem dX4_removeAt_6 : decode cX4_removeAt 6 = .ok (.astore_n 2, 1) := by decide +kernel
theorem dX4_removeAt_7 : decode cX4_removeAt 7 = .ok (.iload_n 1, 1) := by decide +kernel
theorem dX4_removeAt_8 : decode cX4_removeAt 8 = .ok (.istore_n 3, 1) := by decide +kernel
theorem dX4_removeAt_9 : decode cX4_removeAt 9 = .ok (.iload_n 3, 1) := by decide +kernel
theorem dX4_removeAt_10 : decode cX4_removeAt 10 = .ok (.aload_n 0, 1) := by decide +kernel
theorem dX4_removeAt_11 : decode cX4_removeAt 11 = .ok (.getfield 17, 3) := by decide +kernel
theorem dX4_removeAt_14 : decode cX4_removeAt 14 = .ok (.iconst 1, 1) := by decide +kernel
theorem dX4_removeAt_15 : decode cX4_removeAt 15 = .ok (.isub, 1) := by decide +kernel
theorem dX4_removeAt_16 : decode cX4_removeAt 16 = .ok (.if_icmp .ge 23, 3) := by decide +kernel
theorem dX4_removeAt_19 : decode cX4_removeAt 19 = .ok (.aload_n 0, 1) := by decide +kernel
theorem dX4_removeAt_20 : decode cX4_removeAt 20 = .ok (.getfield 11, 3) := by decide +kernel
theorem dX4_removeAt_23 : decode cX4_removeAt 23 = .ok (.iload_n 3, 1) := by decide +kernel
theorem dX4_removeAt_24 : decode cX4_removeAt 24 = .ok (.aload_n 0, 1) := by decide +kernel
theorem dX4_removeAt_25 : decode cX4_removeAt 25 = .ok (.getfield 11, 3) := by decide +kernel
theorem dX4_removeAt_28 : decode cX4_removeAt 28 = .ok (.iload_n 3, 1) := by decide +kernel
theorem dX4_removeAt_29 : decode cX4_removeAt 29 = .ok (.iconst 1, 1) := by decide +kernel
theorem dX4_removeAt_30 : decode cX4_removeAt 30 = .ok (.iadd, 1) := by decide +kernel
theorem dX4_removeAt_31 : decode cX4_removeAt 31 = .ok (.aaload, 1) := by decide +kernel
theorem dX4_removeAt_32 : decode cX4_removeAt 32 = .ok (.aastore, 1) := by decide +kernel
theorem dX4_removeAt_33 : decode cX4_removeAt 33 = .ok (.iinc 3 1, 3) := by decide +kernel
theorem dX4_removeAt_36 : decode cX4_removeAt 36 = .ok (.goto (-27), 3) := by decide +kernel
theorem dX4_removeAt_39 : decode cX4_removeAt 39 = .ok (.aload_n 0, 1) := by decide +kernel
theorem dX4_removeAt_40 : decode cX4_removeAt 40 = .ok (.dup, 1) := by decide +kernel
theorem dX4_removeAt_41 : decode cX4_removeAt 41 = .ok (.getfield 17, 3) := by decide +kernel
theorem dX4_removeAt_44 : decode cX4_removeAt 44 = .ok (.iconst 1, 1) := by decide +kernel
theorem dX4_removeAt_45 : decode cX4_removeAt 45 = .ok (.isub, 1) := by decide +kernel
theorem dX4_removeAt_46 : decode cX4_removeAt 46 = .ok (.putfield 17, 3) := by decide +kernel
theorem dX4_removeAt_49 : decode cX4_removeAt 49 = .ok (.aload_n 0, 1) := by decide +kernel
theorem dX4_removeAt_50 : decode cX4_removeAt 50 = .ok (.getfield 11, 3) := by decide +kernel
theorem dX4_removeAt_53 : decode cX4_removeAt 53 = .ok (.aload_n 0, 1) := by decide +kernel
theorem dX4_removeAt_54 : decode cX4_removeAt 54 = .ok (.getfield 17, 3) := by decide +kernel
theorem dX4_removeAt_57 : decode cX4_removeAt 57 = .ok (.aload_n 2, 1) := by decide +kernel
theorem dX4_removeAt_58 : decode cX4_removeAt 58 = .ok (.aastore, 1) := by decide +kernel
theorem dX4_removeAt_59 : decode cX4_removeAt 59 = .ok (.aload_n 2, 1) := by decide +kernel
theorem dX4_removeAt_60 : decode cX4_removeAt 60 = .ok (.getfield 32, 3) := by decide +kernel
theorem dX4_removeAt_63 : decode cX4_removeAt 63 = .ok (.ireturn, 1) := by decide +kernel
theorem dX4_settle_0 : decode cX4_settle 0 = .ok (.aload_n 0, 1) := by decide +kernel
theorem dX4_settle_1 : decode cX4_settle 1 = .ok (.getfield 11, 3) := by decide +kernel
theorem dX4_settle_4 : decode cX4_settle 4 = .ok (.iload_n 1, 1) := by decide +kernel
theorem dX4_settle_5 : decode cX4_settle 5 = .ok (.aaload, 1) := by decide +kernel
theorem dX4_settle_6 : decode cX4_settle 6 = .ok (.astore_n 2, 1) := by decide +kernel
theorem dX4_settle_7 : decode cX4_settle 7 = .ok (.iload_n 1, 1) := by decide +kernel
theorem dX4_settle_8 : decode cX4_settle 8 = .ok (.istore_n 3, 1) := by decide +kernel
theorem dX4_settle_9 : decode cX4_settle 9 = .ok (.iload_n 3, 1) := by decide +kernel
theorem dX4_settle_10 : decode cX4_settle 10 = .ok (.ifCond .le 38, 3) := by decide +kernel
theorem dX4_settle_13 : decode cX4_settle 13 = .ok (.aload_n 2, 1) := by decide +kernel
theorem dX4_settle_14 : decode cX4_settle 14 = .ok (.aload_n 0, 1) := by decide +kernel
theorem dX4_settle_15 : decode cX4_settle 15 = .ok (.getfield 11, 3) := by decide +kernel
theorem dX4_settle_18 : decode cX4_settle 18 = .ok (.iload_n 3, 1) := by decide +kernel
theorem dX4_settle_19 : decode cX4_settle 19 = .ok (.iconst 1, 1) := by decide +kernel
theorem dX4_settle_20 : decode cX4_settle 20 = .ok (.isub, 1) := by decide +kernel
theorem dX4_settle_21 : decode cX4_settle 21 = .ok (.aaload, 1) := by decide +kernel
theorem dX4_settle_22 : decode cX4_settle 22 = .ok (.invokevirtual 46, 3) := by decide +kernel
theorem dX4_settle_25 : decode cX4_settle 25 = .ok (.ifCond .eq 23, 3) := by decide +kernel
theorem dX4_settle_28 : decode cX4_settle 28 = .ok (.aload_n 0, 1) := by decide +kernel
theorem dX4_settle_29 : decode cX4_settle 29 = .ok (.getfield 11, 3) := by decide +kernel
theorem dX4_settle_32 : decode cX4_settle 32 = .ok (.iload_n 3, 1) := by decide +kernel
theorem dX4_settle_33 : decode cX4_settle 33 = .ok (.aload_n 0, 1) := by decide +kernel
theorem dX4_settle_34 : decode cX4_settle 34 = .ok (.getfield 11, 3) := by decide +kernel
theorem dX4_settle_37 : decode cX4_settle 37 = .ok (.iload_n 3, 1) := by decide +kernel
theorem dX4_settle_38 : decode cX4_settle 38 = .ok (.iconst 1, 1) := by decide +kernel
theorem dX4_settle_39 : decode cX4_settle 39 = .ok (.isub, 1) := by decide +kernel
theorem dX4_settle_40 : decode cX4_settle 40 = .ok (.aaload, 1) := by decide +kernel
theorem dX4_settle_41 : decode cX4_settle 41 = .ok (.aastore, 1) := by decide +kernel
theorem dX4_settle_42 : decode cX4_settle 42 = .ok (.iinc 3 (-1), 3) := by decide +kernel
theorem dX4_settle_45 : decode cX4_settle 45 = .ok (.goto (-36), 3) := by decide +kernel
theorem dX4_settle_48 : decode cX4_settle 48 = .ok (.iload_n 3, 1) := by decide +kernel
theorem dX4_settle_49 : decode cX4_settle 49 = .ok (.aload_n 0, 1) := by decide +kernel
theorem dX4_settle_50 : decode cX4_settle 50 = .ok (.getfield 17, 3) := by decide +kernel
theorem dX4_settle_53 : decode cX4_settle 53 = .ok (.iconst 1, 1) := by decide +kernel
theorem dX4_settle_54 : decode cX4_settle 54 = .ok (.isub, 1) := by decide +kernel
theorem dX4_settle_55 : decode cX4_settle 55 = .ok (.if_icmp .ge 38, 3) := by decide +kernel
theorem dX4_settle_58 : decode cX4_settle 58 = .ok (.aload_n 0, 1) := by decide +kernel
theorem dX4_settle_59 : decode cX4_settle 59 = .ok (.getfield 11, 3) := by decide +kernel
theorem dX4_settle_62 : decode cX4_settle 62 = .ok (.iload_n 3, 1) := by decide +kernel
theorem dX4_settle_63 : decode cX4_settle 63 = .ok (.iconst 1, 1) := by decide +kernel
theorem dX4_settle_64 : decode cX4_settle 64 = .ok (.iadd, 1) := by decide +kernel
theorem dX4_settle_65 : decode cX4_settle 65 = .ok (.aaload, 1) := by decide +kernel
theorem dX4_settle_66 : decode cX4_settle 66 = .ok (.aload_n 2, 1) := by decide +kernel
theorem dX4_settle_67 : decode cX4_settle 67 = .ok (.invokevirtual 46, 3) := by decide +kernel
theorem dX4_settle_70 : decode cX4_settle 70 = .ok (.ifCond .eq 23, 3) := by decide +kernel
theorem dX4_settle_73 : decode cX4_settle 73 = .ok (.aload_n 0, 1) := by decide +kernel
theorem dX4_settle_74 : decode cX4_settle 74 = .ok (.getfield 11, 3) := by decide +kernel
theorem dX4_settle_77 : decode cX4_settle 77 = .ok (.iload_n 3, 1) := by decide +kernel
theorem dX4_settle_78 : decode cX4_settle 78 = .ok (.aload_n 0, 1) := by decide +kernel
theorem dX4_settle_79 : decode cX4_settle 79 = .ok (.getfield 11, 3) := by decide +kernel
theorem dX4_settle_82 : decode cX4_settle 82 = .ok (.iload_n 3, 1) := by decide +kernel
theorem dX4_settle_83 : decode cX4_settle 83 = .ok (.iconst 1, 1) := by decide +kernel
theorem dX4_settle_84 : decode cX4_settle 84 = .ok (.iadd, 1) := by decide +kernel
theorem dX4_settle_85 : decode cX4_settle 85 = .ok (.aaload, 1) := by decide +kernel
theorem dX4_settle_86 : decode cX4_settle 86 = .ok (.aastore, 1) := by decide +kernel
theorem dX4_settle_87 : decode cX4_settle 87 = .ok (.iinc 3 1, 3) := by decide +kernel
theorem dX4_settle_90 : decode cX4_settle 90 = .ok (.goto (-42), 3) := by decide +kernel
theorem dX4_settle_93 : decode cX4_settle 93 = .ok (.aload_n 0, 1) := by decide +kernel
theorem dX4_settle_94 : decode cX4_settle 94 = .ok (.getfield 11, 3) := by decide +kernel
theorem dX4_settle_97 : decode cX4_settle 97 = .ok (.iload_n 3, 1) := by decide +kernel
theorem dX4_settle_98 : decode cX4_settle 98 = .ok (.aload_n 2, 1) := by decide +kernel
theorem dX4_settle_99 : decode cX4_settle 99 = .ok (.aastore, 1) := by decide +kernel
theorem dX4_settle_100 : decode cX4_settle 100 = .ok (.return_, 1) := by decide +kernel
theorem dX5_init_0 : decode cX5_init 0 = .ok (.aload_n 0, 1) := by decide +kernel
theorem dX5_init_1 : decode cX5_init 1 = .ok (.invokespecial 1, 3) := by decide +kernel
theorem dX5_init_4 : decode cX5_init 4 = .ok (.aload_n 0, 1) := by decide +kernel
theorem dX5_init_5 : decode cX5_init 5 = .ok (.iconst 0, 1) := by decide +kernel
theorem dX5_init_6 : decode cX5_init 6 = .ok (.putfield 7, 3) := by decide +kernel
theorem dX5_init_9 : decode cX5_init 9 = .ok (.aload_n 0, 1) := by decide +kernel
theorem dX5_init_10 : decode cX5_init 10 = .ok (.new 13, 3) := by decide +kernel
theorem dX5_init_13 : decode cX5_init 13 = .ok (.dup, 1) := by decide +kernel
theorem dX5_init_14 : decode cX5_init 14 = .ok (.invokespecial 15, 3) := by decide +kernel
theorem dX5_init_17 : decode cX5_init 17 = .ok (.putfield 16, 3) := by decide +kernel
theorem dX5_init_20 : decode cX5_init 20 = .ok (.aload_n 0, 1) := by decide +kernel
theorem dX5_init_21 : decode cX5_init 21 = .ok (.new 20, 3) := by decide +kernel
theorem dX5_init_24 : decode cX5_init 24 = .ok (.dup, 1) := by decide +kernel
theorem dX5_init_25 : decode cX5_init 25 = .ok (.invokespecial 22, 3) := by decide +kernel
theorem dX5_init_28 : decode cX5_init 28 = .ok (.putfield 23, 3) := by decide +kernel
theorem dX5_init_31 : decode cX5_init 31 = .ok (.aload_n 0, 1) := by decide +kernel
theorem dX5_init_32 : decode cX5_init 32 = .ok (.new 27, 3) := by decide +kernel
theorem dX5_init_35 : decode cX5_init 35 = .ok (.dup, 1) := by decide +kernel
theorem dX5_init_36 : decode cX5_init 36 = .ok (.invokespecial 29, 3) := by decide +kernel
theorem dX5_init_39 : decode cX5_init 39 = .ok (.putfield 30, 3) := by decide +kernel
theorem dX5_init_42 : decode cX5_init 42 = .ok (.aload_n 0, 1) := by decide +kernel
theorem dX5_init_43 : decode cX5_init 43 = .ok (.new 34, 3) := by decide +kernel
theorem dX5_init_46 : decode cX5_init 46 = .ok (.dup, 1) := by decide +kernel
theorem dX5_init_47 : decode cX5_init 47 = .ok (.invokespecial 36, 3) := by decide +kernel
theorem dX5_init_50 : decode cX5_init 50 = .ok (.putfield 37, 3) := by decide +kernel
theorem dX5_init_53 : decode cX5_init 53 = .ok (.return_, 1) := by decide +kernel
theorem dX5_copyFrom_0 : decode cX5_copyFrom 0 = .ok (.aload_n 0, 1) := by decide +kernel
theorem dX5_copyFrom_1 : decode cX5_copyFrom 1 = .ok (.aload_n 1, 1) := by decide +kernel
theorem dX5_copyFrom_2 : decode cX5_copyFrom 2 = .ok (.getfield 7, 3) := by decide +kernel
theorem dX5_copyFrom_5 : decode cX5_copyFrom 5 = .ok (.putfield 7, 3) := by decide +kernel
theorem dX5_copyFrom_8 : decode cX5_copyFrom 8 = .ok (.aload_n 0, 1) := by decide +kernel
theorem dX5_copyFrom_9 : decode cX5_copyFrom 9 = .ok (.getfield 16, 3) := by decide +kernel
theorem dX5_copyFrom_12 : decode cX5_copyFrom 12 = .ok (.aload_n 1, 1) := by decide +kernel
theorem dX5_copyFrom_13 : decode cX5_copyFrom 13 = .ok (.getfield 16, 3) := by decide +kernel
theorem dX5_copyFrom_16 : decode cX5_copyFrom 16 = .ok (.invokevirtual 41, 3) := by decide +kernel
theorem dX5_copyFrom_19 : decode cX5_copyFrom 19 = .ok (.aload_n 0, 1) := by decide +kernel
theorem dX5_copyFrom_20 : decode cX5_copyFrom 20 = .ok (.getfield 23, 3) := by decide +kernel
theorem dX5_copyFrom_23 : decode cX5_copyFrom 23 = .ok (.aload_n 1, 1) := by decide +kernel
theorem dX5_copyFrom_24 : decode cX5_copyFrom 24 = .ok (.getfield 23, 3) := by decide +kernel
theorem dX5_copyFrom_27 : decode cX5_copyFrom 27 = .ok (.invokevirtual 45, 3) := by decide +kernel
theorem dX5_copyFrom_30 : decode cX5_copyFrom 30 = .ok (.aload_n 0, 1) := by decide +kernel
theorem dX5_copyFrom_31 : decode cX5_copyFrom 31 = .ok (.getfield 30, 3) := by decide +kernel
theorem dX5_copyFrom_34 : decode cX5_copyFrom 34 = .ok (.aload_n 1, 1) := by decide +kernel
theorem dX5_copyFrom_35 : decode cX5_copyFrom 35 = .ok (.getfield 30, 3) := by decide +kernel
theorem dX5_copyFrom_38 : decode cX5_copyFrom 38 = .ok (.invokevirtual 48, 3) := by decide +kernel
theorem dX5_copyFrom_41 : decode cX5_copyFrom 41 = .ok (.aload_n 0, 1) := by decide +kernel
theorem dX5_copyFrom_42 : decode cX5_copyFrom 42 = .ok (.getfield 37, 3) := by decide +kernel
theorem dX5_copyFrom_45 : decode cX5_copyFrom 45 = .ok (.aload_n 1, 1) := by decide +kernel
theorem dX5_copyFrom_46 : decode cX5_copyFrom 46 = .ok (.getfield 37, 3) := by decide +kernel
theorem dX5_copyFrom_49 : decode cX5_copyFrom 49 = .ok (.invokevirtual 51, 3) := by decide +kernel
theorem dX5_copyFrom_52 : decode cX5_copyFrom 52 = .ok (.return_, 1) := by decide +kernel
theorem dX5_addZoneMinutes_0 : decode cX5_addZoneMinutes 0 = .ok (.aload_n 0, 1) := by decide +kernel
theorem dX5_addZoneMinutes_1 : decode cX5_addZoneMinutes 1 = .ok (.getfield 16, 3) := by decide +kernel
theorem dX5_addZoneMinutes_4 : decode cX5_addZoneMinutes 4 = .ok (.aload_n 1, 1) := by decide +kernel
theorem dX5_addZoneMinutes_5 : decode cX5_addZoneMinutes 5 = .ok (.getfield 54, 3) := by decide +kernel
theorem dX5_addZoneMinutes_8 : decode cX5_addZoneMinutes 8 = .ok (.invokevirtual 59, 3) := by decide +kernel
theorem dX5_addZoneMinutes_11 : decode cX5_addZoneMinutes 11 = .ok (.istore_n 3, 1) := by decide +kernel
theorem dX5_addZoneMinutes_12 : decode cX5_addZoneMinutes 12 = .ok (.iconst 0, 1) := by decide +kernel
theorem dX5_addZoneMinutes_13 : decode cX5_addZoneMinutes 13 = .ok (.istore 4, 2) := by decide +kernel
theorem dX5_addZoneMinutes_15 : decode cX5_addZoneMinutes 15 = .ok (.iload 4, 2) := by decide +kernel
theorem dX5_addZoneMinutes_17 : decode cX5_addZoneMinutes 17 = .ok (.aload_n 1, 1) := by decide +kernel
theorem dX5_addZoneMinutes_18 : decode cX5_addZoneMinutes 18 = .ok (.getfield 63, 3) := by decide +kernel
theorem dX5_addZoneMinutes_21 : decode cX5_addZoneMinutes 21 = .ok (.if_icmp .ge 36, 3) := by decide +kernel
theorem dX5_addZoneMinutes_24 : decode cX5_addZoneMinutes 24 = .ok (.aload_n 2, 1) := by decide +kernel
theorem dX5_addZoneMinutes_25 : decode cX5_addZoneMinutes 25 = .ok (.aload_n 0, 1) := by decide +kernel
theorem dX5_addZoneMinutes_26 : decode cX5_addZoneMinutes 26 = .ok (.getfield 23, 3) := by decide +kernel
theorem dX5_addZoneMinutes_29 : decode cX5_addZoneMinutes 29 = .ok (.aload_n 1, 1) := by decide +kernel
theorem dX5_addZoneMinutes_30 : decode cX5_addZoneMinutes 30 = .ok (.getfield 66, 3) := by decide +kernel
theorem dX5_addZoneMinutes_33 : decode cX5_addZoneMinutes 33 = .ok (.iload 4, 2) := by decide +kernel
theorem dX5_addZoneMinutes_35 : decode cX5_addZoneMinutes 35 = .ok (.iaload, 1) := by decide +kernel
theorem dX5_addZoneMinutes_36 : decode cX5_addZoneMinutes 36 = .ok (.iload_n 3, 1) := by decide +kernel
theorem dX5_addZoneMinutes_37 : decode cX5_addZoneMinutes 37 = .ok (.invokevirtual 70, 3) := by decide +kernel
theorem dX5_addZoneMinutes_40 : decode cX5_addZoneMinutes 40 = .ok (.dup2, 1) := by decide +kernel
theorem dX5_addZoneMinutes_41 : decode cX5_addZoneMinutes 41 = .ok (.iaload, 1) := by decide +kernel
theorem dX5_addZoneMinutes_42 : decode cX5_addZoneMinutes 42 = .ok (.aload_n 1, 1) := by decide +kernel
theorem dX5_addZoneMinutes_43 : decode cX5_addZoneMinutes 43 = .ok (.getfield 74, 3) := by decide +kernel
theorem dX5_addZoneMinutes_46 : decode cX5_addZoneMinutes 46 = .ok (.iload 4, 2) := by decide +kernel
theorem dX5_addZoneMinutes_48 : decode cX5_addZoneMinutes 48 = .ok (.iaload, 1) := by decide +kernel
theorem dX5_addZoneMinutes_49 : decode cX5_addZoneMinutes 49 = .ok (.iadd, 1) := by decide +kernel
theorem dX5_addZoneMinutes_50 : decode cX5_addZoneMinutes 50 = .ok (.iastore, 1) := by decide +kernel
theorem dX5_addZoneMinutes_51 : decode cX5_addZoneMinutes 51 = .ok (.iinc 4 1, 3) := by decide +kernel
theorem dX5_addZoneMinutes_54 : decode cX5_addZoneMinutes 54 = .ok (.goto (-39), 3) := by decide +kernel
theorem dX5_addZoneMinutes_57 : decode cX5_addZoneMinutes 57 = .ok (.return_, 1) := by decide +kernel
theorem dX5_sessionLoad_0 : decode cX5_sessionLoad 0 = .ok (.aload_n 0, 1) := by decide +kernel
theorem dX5_sessionLoad_1 : decode cX5_sessionLoad 1 = .ok (.getfield 16, 3) := by decide +kernel
theorem dX5_sessionLoad_4 : decode cX5_sessionLoad 4 = .ok (.aload_n 1, 1) := by decide +kernel
theorem dX5_sessionLoad_5 : decode cX5_sessionLoad 5 = .ok (.getfield 54, 3) := by decide +kernel
theorem dX5_sessionLoad_8 : decode cX5_sessionLoad 8 = .ok (.invokevirtual 59, 3) := by decide +kernel
theorem dX5_sessionLoad_11 : decode cX5_sessionLoad 11 = .ok (.istore_n 2, 1) := by decide +kernel
theorem dX5_sessionLoad_12 : decode cX5_sessionLoad 12 = .ok (.iconst 0, 1) := by decide +kernel
theorem dX5_sessionLoad_13 : decode cX5_sessionLoad 13 = .ok (.istore_n 3, 1) := by decide +kernel
theorem dX5_sessionLoad_14 : decode cX5_sessionLoad 14 = .ok (.iconst 0, 1) := by decide +kernel
theorem dX5_sessionLoad_15 : decode cX5_sessionLoad 15 = .ok (.istore 4, 2) := by decide +kernel
theorem dX5_sessionLoad_17 : decode cX5_sessionLoad 17 = .ok (.iload 4, 2) := by decide +kernel
theorem dX5_sessionLoad_19 : decode cX5_sessionLoad 19 = .ok (.aload_n 1, 1) := by decide +kernel
theorem dX5_sessionLoad_20 : decode cX5_sessionLoad 20 = .ok (.getfield 63, 3) := by decide +kernel
theorem dX5_sessionLoad_23 : decode cX5_sessionLoad 23 = .ok (.if_icmp .ge 47, 3) := by decide +kernel
theorem dX5_sessionLoad_26 : decode cX5_sessionLoad 26 = .ok (.aload_n 0, 1) := by decide +kernel
theorem dX5_sessionLoad_27 : decode cX5_sessionLoad 27 = .ok (.getfield 23, 3) := by decide +kernel
theorem dX5_sessionLoad_30 : decode cX5_sessionLoad 30 = .ok (.aload_n 1, 1) := by decide +kernel
theorem dX5_sessionLoad_31 : decode cX5_sessionLoad 31 = .ok (.getfield 66, 3) := by decide +kernel
theorem dX5_sessionLoad_34 : decode cX5_sessionLoad 34 = .ok (.iload 4, 2) := by decide +kernel
theorem dX5_sessionLoad_36 : decode cX5_sessionLoad 36 = .ok (.iaload, 1) := by decide +kernel
theorem dX5_sessionLoad_37 : decode cX5_sessionLoad 37 = .ok (.iload_n 2, 1) := by decide +kernel
theorem dX5_sessionLoad_38 : decode cX5_sessionLoad 38 = .ok (.invokevirtual 70, 3) := by decide +kernel
theorem dX5_sessionLoad_41 : decode cX5_sessionLoad 41 = .ok (.istore 5, 2) := by decide +kernel
theorem dX5_sessionLoad_43 : decode cX5_sessionLoad 43 = .ok (.iload_n 3, 1) := by decide +kernel
theorem dX5_sessionLoad_44 : decode cX5_sessionLoad 44 = .ok (.aload_n 1, 1) := by decide +kernel
theorem dX5_sessionLoad_45 : decode cX5_sessionLoad 45 = .ok (.getfield 74, 3) := by decide +kernel
theorem dX5_sessionLoad_48 : decode cX5_sessionLoad 48 = .ok (.iload 4, 2) := by decide +kernel
theorem dX5_sessionLoad_50 : decode cX5_sessionLoad 50 = .ok (.iaload, 1) := by decide +kernel
theorem dX5_sessionLoad_51 : decode cX5_sessionLoad 51 = .ok (.aload_n 0, 1) := by decide +kernel
theorem dX5_sessionLoad_52 : decode cX5_sessionLoad 52 = .ok (.getfield 23, 3) := by decide +kernel
theorem dX5_sessionLoad_55 : decode cX5_sessionLoad 55 = .ok (.getfield 77, 3) := by decide +kernel
theorem dX5_sessionLoad_58 : decode cX5_sessionLoad 58 = .ok (.iload 5, 2) := by decide +kernel
theorem dX5_sessionLoad_60 : decode cX5_sessionLoad 60 = .ok (.iaload, 1) := by decide +kernel
theorem dX5_sessionLoad_61 : decode cX5_sessionLoad 61 = .ok (.imul, 1) := by decide +kernel
theorem dX5_sessionLoad_62 : decode cX5_sessionLoad 62 = .ok (.iadd, 1) := by decide +kernel
theorem dX5_sessionLoad_63 : decode cX5_sessionLoad 63 = .ok (.istore_n 3, 1) := by decide +kernel
theorem dX5_sessionLoad_64 : decode cX5_sessionLoad 64 = .ok (.iinc 4 1, 3) := by decide +kernel
theorem dX5_sessionLoad_67 : decode cX5_sessionLoad 67 = .ok (.goto (-50), 3) := by decide +kernel
theorem dX5_sessionLoad_70 : decode cX5_sessionLoad 70 = .ok (.iload_n 3, 1) := by decide +kernel
theorem dX5_sessionLoad_71 : decode cX5_sessionLoad 71 = .ok (.ireturn, 1) := by decide +kernel
theorem dX5_fillSessionLoads_0 : decode cX5_fillSessionLoads 0 = .ok (.iconst 0, 1) := by decide +kernel
theorem dX5_fillSessionLoads_1 : decode cX5_fillSessionLoads 1 = .ok (.istore_n 2, 1) := by decide +kernel
theorem dX5_fillSessionLoads_2 : decode cX5_fillSessionLoads 2 = .ok (.iload_n 2, 1) := by decide +kernel
theorem dX5_fillSessionLoads_3 : decode cX5_fillSessionLoads 3 = .ok (.aload_n 0, 1) := by decide +kernel
theorem dX5_fillSessionLoads_4 : decode cX5_fillSessionLoads 4 = .ok (.getfield 30, 3) := by decide +kernel
theorem dX5_fillSessionLoads_7 : decode cX5_fillSessionLoads 7 = .ok (.getfield 80, 3) := by decide +kernel
theorem dX5_fillSessionLoads_10 : decode cX5_fillSessionLoads 10 = .ok (.if_icmp .ge 25, 3) := by decide +kernel
theorem dX5_fillSessionLoads_13 : decode cX5_fillSessionLoads 13 = .ok (.aload_n 1, 1) := by decide +kernel
theorem dX5_fillSessionLoads_14 : decode cX5_fillSessionLoads 14 = .ok (.iload_n 2, 1) := by decide +kernel
theorem dX5_fillSessionLoads_15 : decode cX5_fillSessionLoads 15 = .ok (.aload_n 0, 1) := by decide +kernel
theorem dX5_fillSessionLoads_16 : decode cX5_fillSessionLoads 16 = .ok (.aload_n 0, 1) := by decide +kernel
theorem dX5_fillSessionLoads_17 : decode cX5_fillSessionLoads 17 = .ok (.getfield 30, 3) := by decide +kernel
theorem dX5_fillSessionLoads_20 : decode cX5_fillSessionLoads 20 = .ok (.getfield 83, 3) := by decide +kernel
theorem dX5_fillSessionLoads_23 : decode cX5_fillSessionLoads 23 = .ok (.iload_n 2, 1) := by decide +kernel
theorem dX5_fillSessionLoads_24 : decode cX5_fillSessionLoads 24 = .ok (.aaload, 1) := by decide +kernel
theorem dX5_fillSessionLoads_25 : decode cX5_fillSessionLoads 25 = .ok (.invokevirtual 87, 3) := by decide +kernel
theorem dX5_fillSessionLoads_28 : decode cX5_fillSessionLoads 28 = .ok (.iastore, 1) := by decide +kernel
theorem dX5_fillSessionLoads_29 : decode cX5_fillSessionLoads 29 = .ok (.iinc 2 1, 3) := by decide +kernel
theorem dX5_fillSessionLoads_32 : decode cX5_fillSessionLoads 32 = .ok (.goto (-30), 3) := by decide +kernel
theorem dX5_fillSessionLoads_35 : decode cX5_fillSessionLoads 35 = .ok (.return_, 1) := by decide +kernel
theorem dX5_countChangedLoads_0 : decode cX5_countChangedLoads 0 = .ok (.iconst 0, 1) := by decide +kernel
theorem dX5_countChangedLoads_1 : decode cX5_countChangedLoads 1 = .ok (.istore_n 2, 1) := by decide +kernel
theorem dX5_countChangedLoads_2 : decode cX5_countChangedLoads 2 = .ok (.iconst 0, 1) := by decide +kernel
theorem dX5_countChangedLoads_3 : decode cX5_countChangedLoads 3 = .ok (.istore_n 3, 1) := by decide +kernel
theorem dX5_countChangedLoads_4 : decode cX5_countChangedLoads 4 = .ok (.iload_n 3, 1) := by decide +kernel
theorem dX5_countChangedLoads_5 : decode cX5_countChangedLoads 5 = .ok (.aload_n 0, 1) := by decide +kernel
theorem dX5_countChangedLoads_6 : decode cX5_countChangedLoads 6 = .ok (.getfield 30, 3) := by decide +kernel
theorem dX5_countChangedLoads_9 : decode cX5_countChangedLoads 9 = .ok (.getfield 80, 3) := by decide +kernel
theorem dX5_countChangedLoads_12 : decode cX5_countChangedLoads 12 = .ok (.if_icmp .ge 31, 3) := by decide +kernel
theorem dX5_countChangedLoads_15 : decode cX5_countChangedLoads 15 = .ok (.aload_n 0, 1) := by decide +kernel
theorem dX5_countChangedLoads_16 : decode cX5_countChangedLoads 16 = .ok (.aload_n 0, 1) := by decide +kernel
theorem dX5_countChangedLoads_17 : decode cX5_countChangedLoads 17 = .ok (.getfield 30, 3) := by decide +kernel
theorem dX5_countChangedLoads_20 : decode cX5_countChangedLoads 20 = .ok (.getfield 83, 3) := by decide +kernel
theorem dX5_countChangedLoads_23 : decode cX5_countChangedLoads 23 = .ok (.iload_n 3, 1) := by decide +kernel
theorem dX5_countChangedLoads_24 : decode cX5_countChangedLoads 24 = .ok (.aaload, 1) := by decide +kernel
theorem dX5_countChangedLoads_25 : decode cX5_countChangedLoads 25 = .ok (.invokevirtual 87, 3) := by decide +kernel
theorem dX5_countChangedLoads_28 : decode cX5_countChangedLoads 28 = .ok (.aload_n 1, 1) := by decide +kernel
theorem dX5_countChangedLoads_29 : decode cX5_countChangedLoads 29 = .ok (.iload_n 3, 1) := by decide +kernel
theorem dX5_countChangedLoads_30 : decode cX5_countChangedLoads 30 = .ok (.iaload, 1) := by decide +kernel
theorem dX5_countChangedLoads_31 : decode cX5_countChangedLoads 31 = .ok (.if_icmp .eq 6, 3) := by decide +kernel
theorem dX5_countChangedLoads_34 : decode cX5_countChangedLoads 34 = .ok (.iinc 2 1, 3) := by decide +kernel
theorem dX5_countChangedLoads_37 : decode cX5_countChangedLoads 37 = .ok (.iinc 3 1, 3) := by decide +kernel
theorem dX5_countChangedLoads_40 : decode cX5_countChangedLoads 40 = .ok (.goto (-36), 3) := by decide +kernel
theorem dX5_countChangedLoads_43 : decode cX5_countChangedLoads 43 = .ok (.iload_n 2, 1) := by decide +kernel
theorem dX5_countChangedLoads_44 : decode cX5_countChangedLoads 44 = .ok (.ireturn, 1) := by decide +kernel
theorem dX5_fillDayLoads_0 : decode cX5_fillDayLoads 0 = .ok (.aload_n 1, 1) := by decide +kernel
theorem dX5_fillDayLoads_1 : decode cX5_fillDayLoads 1 = .ok (.invokestatic 91, 3) := by decide +kernel
theorem dX5_fillDayLoads_4 : decode cX5_fillDayLoads 4 = .ok (.iconst 0, 1) := by decide +kernel
theorem dX5_fillDayLoads_5 : decode cX5_fillDayLoads 5 = .ok (.istore_n 2, 1) := by decide +kernel
theorem dX5_fillDayLoads_6 : decode cX5_fillDayLoads 6 = .ok (.iload_n 2, 1) := by decide +kernel
theorem dX5_fillDayLoads_7 : decode cX5_fillDayLoads 7 = .ok (.aload_n 0, 1) := by decide +kernel
theorem dX5_fillDayLoads_8 : decode cX5_fillDayLoads 8 = .ok (.getfield 30, 3) := by decide +kernel
theorem dX5_fillDayLoads_11 : decode cX5_fillDayLoads 11 = .ok (.getfield 80, 3) := by decide +kernel
theorem dX5_fillDayLoads_14 : decode cX5_fillDayLoads 14 = .ok (.if_icmp .ge 33, 3) := by decide +kernel
theorem dX5_fillDayLoads_17 : decode cX5_fillDayLoads 17 = .ok (.aload_n 0, 1) := by decide +kernel
theorem dX5_fillDayLoads_18 : decode cX5_fillDayLoads 18 = .ok (.getfield 30, 3) := by decide +kernel
theorem dX5_fillDayLoads_21 : decode cX5_fillDayLoads 21 = .ok (.getfield 83, 3) := by decide +kernel
theorem dX5_fillDayLoads_24 : decode cX5_fillDayLoads 24 = .ok (.iload_n 2, 1) := by decide +kernel
theorem dX5_fillDayLoads_25 : decode cX5_fillDayLoads 25 = .ok (.aaload, 1) := by decide +kernel
theorem dX5_fillDayLoads_26 : decode cX5_fillDayLoads 26 = .ok (.astore_n 3, 1) := by decide +kernel
theorem dX5_fillDayLoads_27 : decode cX5_fillDayLoads 27 = .ok (.aload_n 1, 1) := by decide +kernel
theorem dX5_fillDayLoads_28 : decode cX5_fillDayLoads 28 = .ok (.aload_n 3, 1) := by decide +kernel
theorem dX5_fillDayLoads_29 : decode cX5_fillDayLoads 29 = .ok (.getfield 54, 3) := by decide +kernel
theorem dX5_fillDayLoads_32 : decode cX5_fillDayLoads 32 = .ok (.dup2, 1) := by decide +kernel
theorem dX5_fillDayLoads_33 : decode cX5_fillDayLoads 33 = .ok (.iaload, 1) := by decide +kernel
theorem dX5_fillDayLoads_34 : decode cX5_fillDayLoads 34 = .ok (.aload_n 0, 1) := by decide +kernel
theorem dX5_fillDayLoads_35 : decode cX5_fillDayLoads 35 = .ok (.aload_n 3, 1) := by decide +kernel
theorem dX5_fillDayLoads_36 : decode cX5_fillDayLoads 36 = .ok (.invokevirtual 87, 3) := by decide +kernel
theorem dX5_fillDayLoads_39 : decode cX5_fillDayLoads 39 = .ok (.iadd, 1) := by decide +kernel
theorem dX5_fillDayLoads_40 : decode cX5_fillDayLoads 40 = .ok (.iastore, 1) := by decide +kernel
theorem dX5_fillDayLoads_41 : decode cX5_fillDayLoads 41 = .ok (.iinc 2 1, 3) := by decide +kernel
theorem dX5_fillDayLoads_44 : decode cX5_fillDayLoads 44 = .ok (.goto (-38), 3) := by decide +kernel
theorem dX5_fillDayLoads_47 : decode cX5_fillDayLoads 47 = .ok (.return_, 1) := by decide +kernel
theorem dX6_init_0 : decode cX6_init 0 = .ok (.aload_n 0, 1) := by decide +kernel
theorem dX6_init_1 : decode cX6_init 1 = .ok (.invokespecial 3, 3) := by decide +kernel
theorem dX6_init_4 : decode cX6_init 4 = .ok (.aload_n 0, 1) := by decide +kernel
theorem dX6_init_5 : decode cX6_init 5 = .ok (.bipush 10, 2) := by decide +kernel
theorem dX6_init_7 : decode cX6_init 7 = .ok (.newarray .int, 2) := by decide +kernel
theorem dX6_init_9 : decode cX6_init 9 = .ok (.putfield 9, 3) := by decide +kernel
theorem dX6_init_12 : decode cX6_init 12 = .ok (.aload_n 0, 1) := by decide +kernel
theorem dX6_init_13 : decode cX6_init 13 = .ok (.bipush 10, 2) := by decide +kernel
theorem dX6_init_15 : decode cX6_init 15 = .ok (.newarray .int, 2) := by decide +kernel
theorem dX6_init_17 : decode cX6_init 17 = .ok (.putfield 15, 3) := by decide +kernel
theorem dX6_init_20 : decode cX6_init 20 = .ok (.aload_n 0, 1) := by decide +kernel
theorem dX6_init_21 : decode cX6_init 21 = .ok (.iconst 0, 1) := by decide +kernel
theorem dX6_init_22 : decode cX6_init 22 = .ok (.putfield 18, 3) := by decide +kernel
theorem dX6_init_25 : decode cX6_init 25 = .ok (.return_, 1) := by decide +kernel
theorem dX6_copyFrom_0 : decode cX6_copyFrom 0 = .ok (.aload_n 1, 1) := by decide +kernel
theorem dX6_copyFrom_1 : decode cX6_copyFrom 1 = .ok (.getfield 9, 3) := by decide +kernel
theorem dX6_copyFrom_4 : decode cX6_copyFrom 4 = .ok (.iconst 0, 1) := by decide +kernel
theorem dX6_copyFrom_5 : decode cX6_copyFrom 5 = .ok (.aload_n 0, 1) := by decide +kernel
theorem dX6_copyFrom_6 : decode cX6_copyFrom 6 = .ok (.getfield 9, 3) := by decide +kernel
theorem dX6_copyFrom_9 : decode cX6_copyFrom 9 = .ok (.iconst 0, 1) := by decide +kernel
theorem dX6_copyFrom_10 : decode cX6_copyFrom 10 = .ok (.bipush 10, 2) := by decide +kernel
theorem dX6_copyFrom_12 : decode cX6_copyFrom 12 = .ok (.invokestatic 22, 3) := by decide +kernel
theorem dX6_copyFrom_15 : decode cX6_copyFrom 15 = .ok (.aload_n 1, 1) := by decide +kernel
theorem dX6_copyFrom_16 : decode cX6_copyFrom 16 = .ok (.getfield 15, 3) := by decide +kernel
theorem dX6_copyFrom_19 : decode cX6_copyFrom 19 = .ok (.iconst 0, 1) := by decide +kernel
theorem dX6_copyFrom_20 : decode cX6_copyFrom 20 = .ok (.aload_n 0, 1) := by decide +kernel
theorem dX6_copyFrom_21 : decode cX6_copyFrom 21 = .ok (.getfield 15, 3) := by decide +kernel
theorem dX6_copyFrom_24 : decode cX6_copyFrom 24 = .ok (.iconst 0, 1) := by decide +kernel
theorem dX6_copyFrom_25 : decode cX6_copyFrom 25 = .ok (.bipush 10, 2) := by decide +kernel
theorem dX6_copyFrom_27 : decode cX6_copyFrom 27 = .ok (.invokestatic 22, 3) := by decide +kernel
theorem dX6_copyFrom_30 : decode cX6_copyFrom 30 = .ok (.aload_n 0, 1) := by decide +kernel
theorem dX6_copyFrom_31 : decode cX6_copyFrom 31 = .ok (.aload_n 1, 1) := by decide +kernel
theorem dX6_copyFrom_32 : decode cX6_copyFrom 32 = .ok (.getfield 18, 3) := by decide +kernel
theorem dX6_copyFrom_35 : decode cX6_copyFrom 35 = .ok (.putfield 18, 3) := by decide +kernel
theorem dX6_copyFrom_38 : decode cX6_copyFrom 38 = .ok (.return_, 1) := by decide +kernel
theorem dX6_positionOn_0 : decode cX6_positionOn 0 = .ok (.iconst 0, 1) := by decide +kernel
theorem dX6_positionOn_1 : decode cX6_positionOn 1 = .ok (.istore_n 2, 1) := by decide +kernel
theorem dX6_positionOn_2 : decode cX6_positionOn 2 = .ok (.iload_n 2, 1) := by decide +kernel
theorem dX6_positionOn_3 : decode cX6_positionOn 3 = .ok (.aload_n 0, 1) := by decide +kernel
theorem dX6_positionOn_4 : decode cX6_positionOn 4 = .ok (.getfield 18, 3) := by decide +kernel
theorem dX6_positionOn_7 : decode cX6_positionOn 7 = .ok (.if_icmp .ge 21, 3) := by decide +kernel
theorem dX6_positionOn_10 : decode cX6_positionOn 10 = .ok (.aload_n 0, 1) := by decide +kernel
theorem dX6_positionOn_11 : decode cX6_positionOn 11 = .ok (.getfield 9, 3) := by decide +kernel
theorem dX6_positionOn_14 : decode cX6_positionOn 14 = .ok (.iload_n 2, 1) := by decide +kernel
theorem dX6_positionOn_15 : decode cX6_positionOn 15 = .ok (.iaload, 1) := by decide +kernel
theorem dX6_positionOn_16 : decode cX6_positionOn 16 = .ok (.iload_n 1, 1) := by decide +kernel
theorem dX6_positionOn_17 : decode cX6_positionOn 17 = .ok (.if_icmp .ne 5, 3) := by decide +kernel
theorem dX6_positionOn_20 : decode cX6_positionOn 20 = .ok (.iload_n 2, 1) := by decide +kernel
theorem dX6_positionOn_21 : decode cX6_positionOn 21 = .ok (.ireturn, 1) := by decide +kernel
theorem dX6_positionOn_22 : decode cX6_positionOn 22 = .ok (.iinc 2 1, 3) := by decide +kernel
theorem dX6_positionOn_25 : decode cX6_positionOn 25 = .ok (.goto (-23), 3) := by decide +kernel
theorem dX6_positionOn_28 : decode cX6_positionOn 28 = .ok (.iconst (-1), 1) := by decide +kernel
theorem dX6_positionOn_29 : decode cX6_positionOn 29 = .ok (.ireturn, 1) := by decide +kernel
theorem dX6_thresholdInForce_0 : decode cX6_thresholdInForce 0 = .ok (.sipush 200, 3) := by decide +kernel
theorem dX6_thresholdInForce_3 : decode cX6_thresholdInForce 3 = .ok (.istore_n 2, 1) := by decide +kernel
theorem dX6_thresholdInForce_4 : decode cX6_thresholdInForce 4 = .ok (.iconst (-1), 1) := by decide +kernel
theorem dX6_thresholdInForce_5 : decode cX6_thresholdInForce 5 = .ok (.istore_n 3, 1) := by decide +kernel
theorem dX6_thresholdInForce_6 : decode cX6_thresholdInForce 6 = .ok (.iconst 0, 1) := by decide +kernel
theorem dX6_thresholdInForce_7 : decode cX6_thresholdInForce 7 = .ok (.istore 4, 2) := by decide +kernel
theorem dX6_thresholdInForce_9 : decode cX6_thresholdInForce 9 = .ok (.iload 4, 2) := by decide +kernel
theorem dX6_thresholdInForce_11 : decode cX6_thresholdInForce 11 = .ok (.aload_n 0, 1) := by decide +kernel
theorem dX6_thresholdInForce_12 : decode cX6_thresholdInForce 12 = .ok (.getfield 18, 3) := by decide +kernel
theorem dX6_thresholdInForce_15 : decode cX6_thresholdInForce 15 = .ok (.if_icmp .ge 47, 3) := by decide +kernel
theorem dX6_thresholdInForce_18 : decode cX6_thresholdInForce 18 = .ok (.aload_n 0, 1) := by decide +kernel
theorem dX6_thresholdInForce_19 : decode cX6_thresholdInForce 19 = .ok (.getfield 9, 3) := by decide +kernel
theorem dX6_thresholdInForce_22 : decode cX6_thresholdInForce 22 = .ok (.iload 4, 2) := by decide +kernel
theorem dX6_thresholdInForce_24 : decode cX6_thresholdInForce 24 = .ok (.iaload, 1) := by decide +kernel
theorem dX6_thresholdInForce_25 : decode cX6_thresholdInForce 25 = .ok (.iload_n 1, 1) := by decide +kernel
theorem dX6_thresholdInForce_26 : decode cX6_thresholdInForce 26 = .ok (.if_icmp .gt 30, 3) := by decide +kernel
theorem dX6_thresholdInForce_29 : decode cX6_thresholdInForce 29 = .ok (.aload_n 0, 1) := by decide +kernel
theorem dX6_thresholdInForce_30 : decode cX6_thresholdInForce 30 = .ok (.getfield 9, 3) := by decide +kernel
theorem dX6_thresholdInForce_33 : decode cX6_thresholdInForce 33 = .ok (.iload 4, 2) := by decide +kernel
theorem dX6_thresholdInForce_35 : decode cX6_thresholdInForce 35 = .ok (.iaload, 1) := by decide +kernel
theorem dX6_thresholdInForce_36 : decode cX6_thresholdInForce 36 = .ok (.iload_n 3, 1) := by decide +kernel
theorem dX6_thresholdInForce_37 : decode cX6_thresholdInForce 37 = .ok (.if_icmp .le 19, 3) := by decide +kernel
theorem dX6_thresholdInForce_40 : decode cX6_thresholdInForce 40 = .ok (.aload_n 0, 1) := by decide +kernel
theorem dX6_thresholdInForce_41 : decode cX6_thresholdInForce 41 = .ok (.getfield 9, 3) := by decide +kernel
theorem dX6_thresholdInForce_44 : decode cX6_thresholdInForce 44 = .ok (.iload 4, 2) := by decide +kernel
theorem dX6_thresholdInForce_46 : decode cX6_thresholdInForce 46 = .ok (.iaload, 1) := by decide +kernel
theorem dX6_thresholdInForce_47 : decode cX6_thresholdInForce 47 = .ok (.istore_n 3, 1) := by decide +kernel
theorem dX6_thresholdInForce_48 : decode cX6_thresholdInForce 48 = .ok (.aload_n 0, 1) := by decide +kernel
theorem dX6_thresholdInForce_49 : decode cX6_thresholdInForce 49 = .ok (.getfield 15, 3) := by decide +kernel
theorem dX6_thresholdInForce_52 : decode cX6_thresholdInForce 52 = .ok (.iload 4, 2) := by decide +kernel
theorem dX6_thresholdInForce_54 : decode cX6_thresholdInForce 54 = .ok (.iaload, 1) := by decide +kernel
theorem dX6_thresholdInForce_55 : decode cX6_thresholdInForce 55 = .ok (.istore_n 2, 1) := by decide +kernel
theorem dX6_thresholdInForce_56 : decode cX6_thresholdInForce 56 = .ok (.iinc 4 1, 3) := by decide +kernel
theorem dX6_thresholdInForce_59 : decode cX6_thresholdInForce 59 = .ok (.goto (-50), 3) := by decide +kernel
theorem dX6_thresholdInForce_62 : decode cX6_thresholdInForce 62 = .ok (.iload_n 2, 1) := by decide +kernel
theorem dX6_thresholdInForce_63 : decode cX6_thresholdInForce 63 = .ok (.ireturn, 1) := by decide +kernel
theorem dX6_append_0 : decode cX6_append 0 = .ok (.aload_n 0, 1) := by decide +kernel
theorem dX6_append_1 : decode cX6_append 1 = .ok (.getfield 9, 3) := by decide +kernel
theorem dX6_append_4 : decode cX6_append 4 = .ok (.aload_n 0, 1) := by decide +kernel
theorem dX6_append_5 : decode cX6_append 5 = .ok (.getfield 18, 3) := by decide +kernel
theorem dX6_append_8 : decode cX6_append 8 = .ok (.iload_n 1, 1) := by decide +kernel
theorem dX6_append_9 : decode cX6_append 9 = .ok (.iastore, 1) := by decide +kernel
theorem dX6_append_10 : decode cX6_append 10 = .ok (.aload_n 0, 1) := by decide +kernel
theorem dX6_append_11 : decode cX6_append 11 = .ok (.getfield 15, 3) := by decide +kernel
theorem dX6_append_14 : decode cX6_append 14 = .ok (.aload_n 0, 1) := by decide +kernel
theorem dX6_append_15 : decode cX6_append 15 = .ok (.getfield 18, 3) := by decide +kernel
theorem dX6_append_18 : decode cX6_append 18 = .ok (.iload_n 2, 1) := by decide +kernel
theorem dX6_append_19 : decode cX6_append 19 = .ok (.iastore, 1) := by decide +kernel
theorem dX6_append_20 : decode cX6_append 20 = .ok (.aload_n 0, 1) := by decide +kernel
theorem dX6_append_21 : decode cX6_append 21 = .ok (.dup, 1) := by decide +kernel
theorem dX6_append_22 : decode cX6_append 22 = .ok (.getfield 18, 3) := by decide +kernel
theorem dX6_append_25 : decode cX6_append 25 = .ok (.iconst 1, 1) := by decide +kernel
theorem dX6_append_26 : decode cX6_append 26 = .ok (.iadd, 1) := by decide +kernel
theorem dX6_append_27 : decode cX6_append 27 = .ok (.putfield 18, 3) := by decide +kernel
theorem dX6_append_30 : decode cX6_append 30 = .ok (.return_, 1) := by decide +kernel
theorem dX6_removeAt_0 : decode cX6_removeAt 0 = .ok (.aload_n 0, 1) := by decide +kernel
theorem dX6_removeAt_1 : decode cX6_removeAt 1 = .ok (.dup, 1) := by decide +kernel
theorem dX6_removeAt_2 : decode cX6_removeAt 2 = .ok (.getfield 18, 3) := by decide +kernel
theorem dX6_removeAt_5 : decode cX6_removeAt 5 = .ok (.iconst 1, 1) := by decide +kernel
theorem dX6_removeAt_6 : decode cX6_removeAt 6 = .ok (.isub, 1) := by decide +kernel
theorem dX6_removeAt_7 : decode cX6_removeAt 7 = .ok (.putfield 18, 3) := by decide +kernel
theorem dX6_removeAt_10 : decode cX6_removeAt 10 = .ok (.aload_n 0, 1) := by decide +kernel
theorem dX6_removeAt_11 : decode cX6_removeAt 11 = .ok (.getfield 9, 3) := by decide +kernel
theorem dX6_removeAt_14 : decode cX6_removeAt 14 = .ok (.iload_n 1, 1) := by decide +kernel
theorem dX6_removeAt_15 : decode cX6_removeAt 15 = .ok (.aload_n 0, 1) := by decide +kernel
theorem dX6_removeAt_16 : decode cX6_removeAt 16 = .ok (.getfield 9, 3) := by decide +kernel
theorem dX6_removeAt_19 : decode cX6_removeAt 19 = .ok (.aload_n 0, 1) := by decide +kernel
theorem dX6_removeAt_20 : decode cX6_removeAt 20 = .ok (.getfield 18, 3) := by decide +kernel
theorem dX6_removeAt_23 : decode cX6_removeAt 23 = .ok (.iaload, 1) := by decide +kernel
theorem dX6_removeAt_24 : decode cX6_removeAt 24 = .ok (.iastore, 1) := by decide +kernel
theorem dX6_removeAt_25 : decode cX6_removeAt 25 = .ok (.aload_n 0, 1) := by decide +kernel
theorem dX6_removeAt_26 : decode cX6_removeAt 26 = .ok (.getfield 15, 3) := by decide +kernel
theorem dX6_removeAt_29 : decode cX6_removeAt 29 = .ok (.iload_n 1, 1) := by decide +kernel
theorem dX6_removeAt_30 : decode cX6_removeAt 30 = .ok (.aload_n 0, 1) := by decide +kernel
theorem dX6_removeAt_31 : decode cX6_removeAt 31 = .ok (.getfield 15, 3) := by decide +kernel
theorem dX6_removeAt_34 : decode cX6_removeAt 34 = .ok (.aload_n 0, 1) := by decide +kernel
theorem dX6_removeAt_35 : decode cX6_removeAt 35 = .ok (.getfield 18, 3) := by decide +kernel
theorem dX6_removeAt_38 : decode cX6_removeAt 38 = .ok (.iaload, 1) := by decide +kernel
theorem dX6_removeAt_39 : decode cX6_removeAt 39 = .ok (.iastore, 1) := by decide +kernel
theorem dX6_removeAt_40 : decode cX6_removeAt 40 = .ok (.return_, 1) := by decide +kernel
theorem dX7_init_0 : decode cX7_init 0 = .ok (.aload_n 0, 1) := by decide +kernel
theorem dX7_init_1 : decode cX7_init 1 = .ok (.invokespecial 3, 3) := by decide +kernel
theorem dX7_init_4 : decode cX7_init 4 = .ok (.aload_n 0, 1) := by decide +kernel
theorem dX7_init_5 : decode cX7_init 5 = .ok (.sipush 200, 3) := by decide +kernel
theorem dX7_init_8 : decode cX7_init 8 = .ok (.newarray .int, 2) := by decide +kernel
theorem dX7_init_10 : decode cX7_init 10 = .ok (.putfield 9, 3) := by decide +kernel
theorem dX7_init_13 : decode cX7_init 13 = .ok (.aload_n 0, 1) := by decide +kernel
theorem dX7_init_14 : decode cX7_init 14 = .ok (.sipush 200, 3) := by decide +kernel
theorem dX7_init_17 : decode cX7_init 17 = .ok (.newarray .int, 2) := by decide +kernel
theorem dX7_init_19 : decode cX7_init 19 = .ok (.putfield 15, 3) := by decide +kernel
theorem dX7_init_22 : decode cX7_init 22 = .ok (.aload_n 0, 1) := by decide +kernel
theorem dX7_init_23 : decode cX7_init 23 = .ok (.iconst 0, 1) := by decide +kernel
theorem dX7_init_24 : decode cX7_init 24 = .ok (.putfield 18, 3) := by decide +kernel
theorem dX7_init_27 : decode cX7_init 27 = .ok (.return_, 1) := by decide +kernel
theorem dX7_forgetFrom_0 : decode cX7_forgetFrom 0 = .ok (.aload_n 0, 1) := by decide +kernel
theorem dX7_forgetFrom_1 : decode cX7_forgetFrom 1 = .ok (.aload_n 0, 1) := by decide +kernel
theorem dX7_forgetFrom_2 : decode cX7_forgetFrom 2 = .ok (.getfield 18, 3) := by decide +kernel
theorem dX7_forgetFrom_5 : decode cX7_forgetFrom 5 = .ok (.iload_n 1, 1) := by decide +kernel
theorem dX7_forgetFrom_6 : decode cX7_forgetFrom 6 = .ok (.invokestatic 22, 3) := by decide +kernel
theorem dX7_forgetFrom_9 : decode cX7_forgetFrom 9 = .ok (.putfield 18, 3) := by decide +kernel
theorem dX7_forgetFrom_12 : decode cX7_forgetFrom 12 = .ok (.return_, 1) := by decide +kernel
theorem dX8_init_0 : decode cX8_init 0 = .ok (.aload_n 0, 1) := by decide +kernel
theorem dX8_init_1 : decode cX8_init 1 = .ok (.invokespecial 3, 3) := by decide +kernel
theorem dX8_init_4 : decode cX8_init 4 = .ok (.aload_n 0, 1) := by decide +kernel
theorem dX8_init_5 : decode cX8_init 5 = .ok (.getstatic 9, 3) := by decide +kernel
theorem dX8_init_8 : decode cX8_init 8 = .ok (.invokevirtual 13, 3) := by decide +kernel
theorem dX8_init_11 : decode cX8_init 11 = .ok (.checkcast 14, 3) := by decide +kernel
theorem dX8_init_14 : decode cX8_init 14 = .ok (.putfield 18, 3) := by decide +kernel
theorem dX8_init_17 : decode cX8_init 17 = .ok (.aload_n 0, 1) := by decide +kernel
theorem dX8_init_18 : decode cX8_init 18 = .ok (.getstatic 23, 3) := by decide +kernel
theorem dX8_init_21 : decode cX8_init 21 = .ok (.invokevirtual 13, 3) := by decide +kernel
theorem dX8_init_24 : decode cX8_init 24 = .ok (.checkcast 14, 3) := by decide +kernel
theorem dX8_init_27 : decode cX8_init 27 = .ok (.putfield 26, 3) := by decide +kernel
theorem dX8_init_30 : decode cX8_init 30 = .ok (.return_, 1) := by decide +kernel
theorem dX8_copyFrom_0 : decode cX8_copyFrom 0 = .ok (.aload_n 1, 1) := by decide +kernel
theorem dX8_copyFrom_1 : decode cX8_copyFrom 1 = .ok (.getfield 18, 3) := by decide +kernel
theorem dX8_copyFrom_4 : decode cX8_copyFrom 4 = .ok (.iconst 0, 1) := by decide +kernel
theorem dX8_copyFrom_5 : decode cX8_copyFrom 5 = .ok (.aload_n 0, 1) := by decide +kernel
theorem dX8_copyFrom_6 : decode cX8_copyFrom 6 = .ok (.getfield 18, 3) := by decide +kernel
theorem dX8_copyFrom_9 : decode cX8_copyFrom 9 = .ok (.iconst 0, 1) := by decide +kernel
theorem dX8_copyFrom_10 : decode cX8_copyFrom 10 = .ok (.bipush 6, 2) := by decide +kernel
theorem dX8_copyFrom_12 : decode cX8_copyFrom 12 = .ok (.invokestatic 29, 3) := by decide +kernel
theorem dX8_copyFrom_15 : decode cX8_copyFrom 15 = .ok (.aload_n 1, 1) := by decide +kernel
theorem dX8_copyFrom_16 : decode cX8_copyFrom 16 = .ok (.getfield 26, 3) := by decide +kernel
theorem dX8_copyFrom_19 : decode cX8_copyFrom 19 = .ok (.iconst 0, 1) := by decide +kernel
theorem dX8_copyFrom_20 : decode cX8_copyFrom 20 = .ok (.aload_n 0, 1) := by decide +kernel
theorem dX8_copyFrom_21 : decode cX8_copyFrom 21 = .ok (.getfield 26, 3) := by decide +kernel
theorem dX8_copyFrom_24 : decode cX8_copyFrom 24 = .ok (.iconst 0, 1) := by decide +kernel
theorem dX8_copyFrom_25 : decode cX8_copyFrom 25 = .ok (.bipush 6, 2) := by decide +kernel
theorem dX8_copyFrom_27 : decode cX8_copyFrom 27 = .ok (.invokestatic 29, 3) := by decide +kernel
theorem dX8_copyFrom_30 : decode cX8_copyFrom 30 = .ok (.return_, 1) := by decide +kernel
theorem dX8_boundsWouldIncrease_0 : decode cX8_boundsWouldIncrease 0 = .ok (.iload_n 1, 1) := by decide +kernel
theorem dX8_boundsWouldIncrease_1 : decode cX8_boundsWouldIncrease 1 = .ok (.iconst 2, 1) := by decide +kernel
theorem dX8_boundsWouldIncrease_2 : decode cX8_boundsWouldIncrease 2 = .ok (.if_icmp .eq 15, 3) := by decide +kernel
theorem dX8_boundsWouldIncrease_5 : decode cX8_boundsWouldIncrease 5 = .ok (.iload_n 2, 1) := by decide +kernel
theorem dX8_boundsWouldIncrease_6 : decode cX8_boundsWouldIncrease 6 = .ok (.aload_n 0, 1) := by decide +kernel
theorem dX8_boundsWouldIncrease_7 : decode cX8_boundsWouldIncrease 7 = .ok (.getfield 18, 3) := by decide +kernel
theorem dX8_boundsWouldIncrease_10 : decode cX8_boundsWouldIncrease 10 = .ok (.iload_n 1, 1) := by decide +kernel
theorem dX8_boundsWouldIncrease_11 : decode cX8_boundsWouldIncrease 11 = .ok (.iconst 1, 1) := by decide +kernel
theorem dX8_boundsWouldIncrease_12 : decode cX8_boundsWouldIncrease 12 = .ok (.isub, 1) := by decide +kernel
theorem dX8_boundsWouldIncrease_13 : decode cX8_boundsWouldIncrease 13 = .ok (.iaload, 1) := by decide +kernel
theorem dX8_boundsWouldIncrease_14 : decode cX8_boundsWouldIncrease 14 = .ok (.if_icmp .le 7, 3) := by decide +kernel
theorem dX8_boundsWouldIncrease_17 : decode cX8_boundsWouldIncrease 17 = .ok (.iconst 1, 1) := by decide +kernel
theorem dX8_boundsWouldIncrease_18 : decode cX8_boundsWouldIncrease 18 = .ok (.goto 4, 3) := by decide +kernel
theorem dX8_boundsWouldIncrease_21 : decode cX8_boundsWouldIncrease 21 = .ok (.iconst 0, 1) := by decide +kernel
theorem dX8_boundsWouldIncrease_22 : decode cX8_boundsWouldIncrease 22 = .ok (.istore_n 3, 1) := by decide +kernel
theorem dX8_boundsWouldIncrease_23 : decode cX8_boundsWouldIncrease 23 = .ok (.iload_n 1, 1) := by decide +kernel
theorem dX8_boundsWouldIncrease_24 : decode cX8_boundsWouldIncrease 24 = .ok (.iconst 5, 1) := by decide +kernel
theorem dX8_boundsWouldIncrease_25 : decode cX8_boundsWouldIncrease 25 = .ok (.if_icmp .eq 15, 3) := by decide +kernel
theorem dX8_boundsWouldIncrease_28 : decode cX8_boundsWouldIncrease 28 = .ok (.iload_n 2, 1) := by decide +kernel
theorem dX8_boundsWouldIncrease_29 : decode cX8_boundsWouldIncrease 29 = .ok (.aload_n 0, 1) := by decide +kernel
theorem dX8_boundsWouldIncrease_30 : decode cX8_boundsWouldIncrease 30 = .ok (.getfield 18, 3) := by decide +kernel
theorem dX8_boundsWouldIncrease_33 : decode cX8_boundsWouldIncrease 33 = .ok (.iload_n 1, 1) := by decide +kernel
theorem dX8_boundsWouldIncrease_34 : decode cX8_boundsWouldIncrease 34 = .ok (.iconst 1, 1) := by decide +kernel
theorem dX8_boundsWouldIncrease_35 : decode cX8_boundsWouldIncrease 35 = .ok (.iadd, 1) := by decide +kernel
theorem dX8_boundsWouldIncrease_36 : decode cX8_boundsWouldIncrease 36 = .ok (.iaload, 1) := by decide +kernel
theorem dX8_boundsWouldIncrease_37 : decode cX8_boundsWouldIncrease 37 = .ok (.if_icmp .ge 7, 3) := by decide +kernel
theorem dX8_boundsWouldIncrease_40 : decode cX8_boundsWouldIncrease 40 = .ok (.iconst 1, 1) := by decide +kernel
theorem dX8_boundsWouldIncrease_41 : decode cX8_boundsWouldIncrease 41 = .ok (.goto 4, 3) := by decide +kernel
theorem dX8_boundsWouldIncrease_44 : decode cX8_boundsWouldIncrease 44 = .ok (.iconst 0, 1) := by decide +kernel
theorem dX8_boundsWouldIncrease_45 : decode cX8_boundsWouldIncrease 45 = .ok (.istore 4, 2) := by decide +kernel
theorem dX8_boundsWouldIncrease_47 : decode cX8_boundsWouldIncrease 47 = .ok (.iload_n 3, 1) := by decide +kernel
theorem dX8_boundsWouldIncrease_48 : decode cX8_boundsWouldIncrease 48 = .ok (.ifCond .eq 12, 3) := by decide +kernel
theorem dX8_boundsWouldIncrease_51 : decode cX8_boundsWouldIncrease 51 = .ok (.iload 4, 2) := by decide +kernel
theorem dX8_boundsWouldIncrease_53 : decode cX8_boundsWouldIncrease 53 = .ok (.ifCond .eq 7, 3) := by decide +kernel
theorem dX8_boundsWouldIncrease_56 : decode cX8_boundsWouldIncrease 56 = .ok (.iconst 1, 1) := by decide +kernel
theorem dX8_boundsWouldIncrease_57 : decode cX8_boundsWouldIncrease 57 = .ok (.goto 4, 3) := by decide +kernel
theorem dX8_boundsWouldIncrease_60 : decode cX8_boundsWouldIncrease 60 = .ok (.iconst 0, 1) := by decide +kernel
theorem dX8_boundsWouldIncrease_61 : decode cX8_boundsWouldIncrease 61 = .ok (.ireturn, 1) := by decide +kernel
theorem dX8_zoneFor_0 : decode cX8_zoneFor 0 = .ok (.iconst 5, 1) := by decide +kernel
theorem dX8_zoneFor_1 : decode cX8_zoneFor 1 = .ok (.istore_n 3, 1) := by decide +kernel
theorem dX8_zoneFor_2 : decode cX8_zoneFor 2 = .ok (.iload_n 3, 1) := by decide +kernel
theorem dX8_zoneFor_3 : decode cX8_zoneFor 3 = .ok (.iconst 2, 1) := by decide +kernel
theorem dX8_zoneFor_4 : decode cX8_zoneFor 4 = .ok (.if_icmp .lt 26, 3) := by decide +kernel
theorem dX8_zoneFor_7 : decode cX8_zoneFor 7 = .ok (.aload_n 0, 1) := by decide +kernel
theorem dX8_zoneFor_8 : decode cX8_zoneFor 8 = .ok (.getfield 18, 3) := by decide +kernel
theorem dX8_zoneFor_11 : decode cX8_zoneFor 11 = .ok (.iload_n 3, 1) := by decide +kernel
theorem dX8_zoneFor_12 : decode cX8_zoneFor 12 = .ok (.iaload, 1) := by decide +kernel
theorem dX8_zoneFor_13 : decode cX8_zoneFor 13 = .ok (.iload_n 2, 1) := by decide +kernel
theorem dX8_zoneFor_14 : decode cX8_zoneFor 14 = .ok (.imul, 1) := by decide +kernel
theorem dX8_zoneFor_15 : decode cX8_zoneFor 15 = .ok (.bipush 100, 2) := by decide +kernel
theorem dX8_zoneFor_17 : decode cX8_zoneFor 17 = .ok (.iload_n 1, 1) := by decide +kernel
theorem dX8_zoneFor_18 : decode cX8_zoneFor 18 = .ok (.imul, 1) := by decide +kernel
theorem dX8_zoneFor_19 : decode cX8_zoneFor 19 = .ok (.if_icmp .gt 5, 3) := by decide +kernel
theorem dX8_zoneFor_22 : decode cX8_zoneFor 22 = .ok (.iload_n 3, 1) := by decide +kernel
theorem dX8_zoneFor_23 : decode cX8_zoneFor 23 = .ok (.ireturn, 1) := by decide +kernel
theorem dX8_zoneFor_24 : decode cX8_zoneFor 24 = .ok (.iinc 3 (-1), 3) := by decide +kernel
theorem dX8_zoneFor_27 : decode cX8_zoneFor 27 = .ok (.goto (-25), 3) := by decide +kernel
theorem dX8_zoneFor_30 : decode cX8_zoneFor 30 = .ok (.iconst 1, 1) := by decide +kernel
theorem dX8_zoneFor_31 : decode cX8_zoneFor 31 = .ok (.ireturn, 1) := by decide +kernel
theorem dX9_init_0 : decode cX9_init 0 = .ok (.aload_n 0, 1) := by decide +kernel
theorem dX9_init_1 : decode cX9_init 1 = .ok (.invokespecial 3, 3) := by decide +kernel
theorem dX9_init_4 : decode cX9_init 4 = .ok (.aload_n 0, 1) := by decide +kernel
theorem dX9_init_5 : decode cX9_init 5 = .ok (.new 9, 3) := by decide +kernel
theorem dX9_init_8 : decode cX9_init 8 = .ok (.dup, 1) := by decide +kernel
theorem dX9_init_9 : decode cX9_init 9 = .ok (.invokespecial 11, 3) := by decide +kernel
theorem dX9_init_12 : decode cX9_init 12 = .ok (.putfield 12, 3) := by decide +kernel
theorem dX9_init_15 : decode cX9_init 15 = .ok (.aload_n 0, 1) := by decide +kernel
theorem dX9_init_16 : decode cX9_init 16 = .ok (.new 16, 3) := by decide +kernel
theorem dX9_init_19 : decode cX9_init 19 = .ok (.dup, 1) := by decide +kernel
theorem dX9_init_20 : decode cX9_init 20 = .ok (.invokespecial 18, 3) := by decide +kernel
theorem dX9_init_23 : decode cX9_init 23 = .ok (.putfield 19, 3) := by decide +kernel
theorem dX9_init_26 : decode cX9_init 26 = .ok (.aload_n 0, 1) := by decide +kernel
theorem dX9_init_27 : decode cX9_init 27 = .ok (.new 9, 3) := by decide +kernel
theorem dX9_init_30 : decode cX9_init 30 = .ok (.dup, 1) := by decide +kernel
theorem dX9_init_31 : decode cX9_init 31 = .ok (.invokespecial 11, 3) := by decide +kernel
theorem dX9_init_34 : decode cX9_init 34 = .ok (.putfield 23, 3) := by decide +kernel
theorem dX9_init_37 : decode cX9_init 37 = .ok (.aload_n 0, 1) := by decide +kernel
theorem dX9_init_38 : decode cX9_init 38 = .ok (.iconst 0, 1) := by decide +kernel
theorem dX9_init_39 : decode cX9_init 39 = .ok (.putfield 26, 3) := by decide +kernel
theorem dX9_init_42 : decode cX9_init 42 = .ok (.aload_n 0, 1) := by decide +kernel
theorem dX9_init_43 : decode cX9_init 43 = .ok (.bipush 13, 2) := by decide +kernel
theorem dX9_init_45 : decode cX9_init 45 = .ok (.newarray .char, 2) := by decide +kernel
theorem dX9_init_47 : decode cX9_init 47 = .ok (.putfield 30, 3) := by decide +kernel
theorem dX9_init_50 : decode cX9_init 50 = .ok (.aload_n 0, 1) := by decide +kernel
theorem dX9_init_51 : decode cX9_init 51 = .ok (.iconst 0, 1) := by decide +kernel
theorem dX9_init_52 : decode cX9_init 52 = .ok (.putfield 34, 3) := by decide +kernel
theorem dX9_init_55 : decode cX9_init 55 = .ok (.aload_n 0, 1) := by decide +kernel
theorem dX9_init_56 : decode cX9_init 56 = .ok (.new 38, 3) := by decide +kernel
theorem dX9_init_59 : decode cX9_init 59 = .ok (.dup, 1) := by decide +kernel
theorem dX9_init_60 : decode cX9_init 60 = .ok (.invokespecial 40, 3) := by decide +kernel
theorem dX9_init_63 : decode cX9_init 63 = .ok (.putfield 41, 3) := by decide +kernel
theorem dX9_init_66 : decode cX9_init 66 = .ok (.aload_n 0, 1) := by decide +kernel
theorem dX9_init_67 : decode cX9_init 67 = .ok (.new 45, 3) := by decide +kernel
theorem dX9_init_70 : decode cX9_init 70 = .ok (.dup, 1) := by decide +kernel
theorem dX9_init_71 : decode cX9_init 71 = .ok (.invokespecial 47, 3) := by decide +kernel
theorem dX9_init_74 : decode cX9_init 74 = .ok (.putfield 48, 3) := by decide +kernel
theorem dX9_init_77 : decode cX9_init 77 = .ok (.aload_n 0, 1) := by decide +kernel
theorem dX9_init_78 : decode cX9_init 78 = .ok (.sipush 200, 3) := by decide +kernel
theorem dX9_init_81 : decode cX9_init 81 = .ok (.newarray .int, 2) := by decide +kernel
theorem dX9_init_83 : decode cX9_init 83 = .ok (.putfield 52, 3) := by decide +kernel
theorem dX9_init_86 : decode cX9_init 86 = .ok (.aload_n 0, 1) := by decide +kernel
theorem dX9_init_87 : decode cX9_init 87 = .ok (.bipush 40, 2) := by decide +kernel
theorem dX9_init_89 : decode cX9_init 89 = .ok (.newarray .int, 2) := by decide +kernel
theorem dX9_init_91 : decode cX9_init 91 = .ok (.putfield 56, 3) := by decide +kernel
theorem dX9_init_94 : decode cX9_init 94 = .ok (.aload_n 0, 1) := by decide +kernel
theorem dX9_init_95 : decode cX9_init 95 = .ok (.bipush 6, 2) := by decide +kernel
theorem dX9_init_97 : decode cX9_init 97 = .ok (.newarray .int, 2) := by decide +kernel
theorem dX9_init_99 : decode cX9_init 99 = .ok (.putfield 59, 3) := by decide +kernel
theorem dX9_init_102 : decode cX9_init 102 = .ok (.aload_n 0, 1) := by decide +kernel
theorem dX9_init_103 : decode cX9_init 103 = .ok (.sipush 241, 3) := by decide +kernel
theorem dX9_init_106 : decode cX9_init 106 = .ok (.newarray .int, 2) := by decide +kernel
theorem dX9_init_108 : decode cX9_init 108 = .ok (.putfield 62, 3) := by decide +kernel
theorem dX9_init_111 : decode cX9_init 111 = .ok (.return_, 1) := by decide +kernel
theorem dX9_pass_0 : decode cX9_pass 0 = .ok (.iload_n 1, 1) := by decide +kernel
theorem dX9_pass_1 : decode cX9_pass 1 = .ok (.iconst 1, 1) := by decide +kernel
theorem dX9_pass_2 : decode cX9_pass 2 = .ok (.bipush 30, 2) := by decide +kernel
theorem dX9_pass_4 : decode cX9_pass 4 = .ok (.invokestatic 65, 3) := by decide +kernel
theorem dX9_pass_7 : decode cX9_pass 7 = .ok (.aload_n 0, 1) := by decide +kernel
theorem dX9_pass_8 : decode cX9_pass 8 = .ok (.getfield 12, 3) := by decide +kernel
theorem dX9_pass_11 : decode cX9_pass 11 = .ok (.getfield 69, 3) := by decide +kernel
theorem dX9_pass_14 : decode cX9_pass 14 = .ok (.iload_n 1, 1) := by decide +kernel
theorem dX9_pass_15 : decode cX9_pass 15 = .ok (.iadd, 1) := by decide +kernel
theorem dX9_pass_16 : decode cX9_pass 16 = .ok (.sipush 200, 3) := by decide +kernel
theorem dX9_pass_19 : decode cX9_pass 19 = .ok (.if_icmp .lt 13, 3) := by decide +kernel
theorem dX9_pass_22 : decode cX9_pass 22 = .ok (.new 72, 3) := by decide +kernel
theorem dX9_pass_25 : decode cX9_pass 25 = .ok (.dup, 1) := by decide +kernel
theorem dX9_pass_26 : decode cX9_pass 26 = .ok (.ldc 74, 2) := by decide +kernel
theorem dX9_pass_28 : decode cX9_pass 28 = .ok (.invokespecial 76, 3) := by decide +kernel
theorem dX9_pass_31 : decode cX9_pass 31 = .ok (.athrow, 1) := by decide +kernel
theorem dX9_pass_32 : decode cX9_pass 32 = .ok (.aload_n 0, 1) := by decide +kernel
theorem dX9_pass_33 : decode cX9_pass 33 = .ok (.getfield 19, 3) := by decide +kernel
theorem dX9_pass_36 : decode cX9_pass 36 = .ok (.aload_n 0, 1) := by decide +kernel
theorem dX9_pass_37 : decode cX9_pass 37 = .ok (.getfield 12, 3) := by decide +kernel
theorem dX9_pass_40 : decode cX9_pass 40 = .ok (.invokevirtual 79, 3) := by decide +kernel
theorem dX9_pass_43 : decode cX9_pass 43 = .ok (.aload_n 0, 1) := by decide +kernel
theorem dX9_pass_44 : decode cX9_pass 44 = .ok (.getfield 12, 3) := by decide +kernel
theorem dX9_pass_47 : decode cX9_pass 47 = .ok (.dup, 1) := by decide +kernel
theorem dX9_pass_48 : decode cX9_pass 48 = .ok (.getfield 69, 3) := by decide +kernel
theorem dX9_pass_51 : decode cX9_pass 51 = .ok (.iload_n 1, 1) := by decide +kernel
theorem dX9_pass_52 : decode cX9_pass 52 = .ok (.iadd, 1) := by decide +kernel
theorem dX9_pass_53 : decode cX9_pass 53 = .ok (.putfield 69, 3) := by decide +kernel
theorem dX9_pass_56 : decode cX9_pass 56 = .ok (.aload_n 0, 1) := by decide +kernel
theorem dX9_pass_57 : decode cX9_pass 57 = .ok (.getfield 12, 3) := by decide +kernel
theorem dX9_pass_60 : decode cX9_pass 60 = .ok (.getfield 69, 3) := by decide +kernel
theorem dX9_pass_63 : decode cX9_pass 63 = .ok (.ireturn, 1) := by decide +kernel
theorem dX9_today_0 : decode cX9_today 0 = .ok (.aload_n 0, 1) := by decide +kernel
theorem dX9_today_1 : decode cX9_today 1 = .ok (.getfield 12, 3) := by decide +kernel
theorem dX9_today_4 : decode cX9_today 4 = .ok (.getfield 69, 3) := by decide +kernel
theorem dX9_today_7 : decode cX9_today 7 = .ok (.ireturn, 1) := by decide +kernel
theorem dX9_addTest_0 : decode cX9_addTest 0 = .ok (.aload_n 0, 1) := by decide +kernel
theorem dX9_addTest_1 : decode cX9_addTest 1 = .ok (.iload_n 1, 1) := by decide +kernel
theorem dX9_addTest_2 : decode cX9_addTest 2 = .ok (.invokevirtual 83, 3) := by decide +kernel
theorem dX9_addTest_5 : decode cX9_addTest 5 = .ok (.iload_n 2, 1) := by decide +kernel
theorem dX9_addTest_6 : decode cX9_addTest 6 = .ok (.bipush 50, 2) := by decide +kernel
theorem dX9_addTest_8 : decode cX9_addTest 8 = .ok (.sipush 400, 3) := by decide +kernel
theorem dX9_addTest_11 : decode cX9_addTest 11 = .ok (.invokestatic 65, 3) := by decide +kernel
theorem dX9_addTest_14 : decode cX9_addTest 14 = .ok (.aload_n 0, 1) := by decide +kernel
theorem dX9_addTest_15 : decode cX9_addTest 15 = .ok (.getfield 12, 3) := by decide +kernel
theorem dX9_addTest_18 : decode cX9_addTest 18 = .ok (.getfield 87, 3) := by decide +kernel
theorem dX9_addTest_21 : decode cX9_addTest 21 = .ok (.astore_n 3, 1) := by decide +kernel
theorem dX9_addTest_22 : decode cX9_addTest 22 = .ok (.aload_n 3, 1) := by decide +kernel
theorem dX9_addTest_23 : decode cX9_addTest 23 = .ok (.getfield 91, 3) := by decide +kernel
theorem dX9_addTest_26 : decode cX9_addTest 26 = .ok (.bipush 10, 2) := by decide +kernel
theorem dX9_addTest_28 : decode cX9_addTest 28 = .ok (.if_icmp .ge 11, 3) := by decide +kernel
theorem dX9_addTest_31 : decode cX9_addTest 31 = .ok (.aload_n 3, 1) := by decide +kernel
theorem dX9_addTest_32 : decode cX9_addTest 32 = .ok (.iload_n 1, 1) := by decide +kernel
theorem dX9_addTest_33 : decode cX9_addTest 33 = .ok (.invokevirtual 96, 3) := by decide +kernel
theorem dX9_addTest_36 : decode cX9_addTest 36 = .ok (.ifCond .lt 13, 3) := by decide +kernel
theorem dX9_addTest_39 : decode cX9_addTest 39 = .ok (.new 72, 3) := by decide +kernel
theorem dX9_addTest_42 : decode cX9_addTest 42 = .ok (.dup, 1) := by decide +kernel
theorem dX9_addTest_43 : decode cX9_addTest 43 = .ok (.ldc 100, 2) := by decide +kernel
theorem dX9_addTest_45 : decode cX9_addTest 45 = .ok (.invokespecial 76, 3) := by decide +kernel
theorem dX9_addTest_48 : decode cX9_addTest 48 = .ok (.athrow, 1) := by decide +kernel
theorem dX9_addTest_49 : decode cX9_addTest 49 = .ok (.aload_n 0, 1) := by decide +kernel
theorem dX9_addTest_50 : decode cX9_addTest 50 = .ok (.getfield 19, 3) := by decide +kernel
theorem dX9_addTest_53 : decode cX9_addTest 53 = .ok (.aload_n 0, 1) := by decide +kernel
theorem dX9_addTest_54 : decode cX9_addTest 54 = .ok (.getfield 12, 3) := by decide +kernel
theorem dX9_addTest_57 : decode cX9_addTest 57 = .ok (.invokevirtual 79, 3) := by decide +kernel
theorem dX9_addTest_60 : decode cX9_addTest 60 = .ok (.aload_n 0, 1) := by decide +kernel
theorem dX9_addTest_61 : decode cX9_addTest 61 = .ok (.getfield 12, 3) := by decide +kernel
theorem dX9_addTest_64 : decode cX9_addTest 64 = .ok (.aload_n 0, 1) := by decide +kernel
theorem dX9_addTest_65 : decode cX9_addTest 65 = .ok (.getfield 56, 3) := by decide +kernel
theorem dX9_addTest_68 : decode cX9_addTest 68 = .ok (.invokevirtual 102, 3) := by decide +kernel
theorem dX9_addTest_71 : decode cX9_addTest 71 = .ok (.aload_n 3, 1) := by decide +kernel
theorem dX9_addTest_72 : decode cX9_addTest 72 = .ok (.iload_n 1, 1) := by decide +kernel
theorem dX9_addTest_73 : decode cX9_addTest 73 = .ok (.iload_n 2, 1) := by decide +kernel
theorem dX9_addTest_74 : decode cX9_addTest 74 = .ok (.invokevirtual 106, 3) := by decide +kernel
theorem dX9_addTest_77 : decode cX9_addTest 77 = .ok (.aload_n 0, 1) := by decide +kernel
theorem dX9_addTest_78 : decode cX9_addTest 78 = .ok (.getfield 41, 3) := by decide +kernel
theorem dX9_addTest_81 : decode cX9_addTest 81 = .ok (.iload_n 1, 1) := by decide +kernel
theorem dX9_addTest_82 : decode cX9_addTest 82 = .ok (.invokevirtual 110, 3) := by decide +kernel
theorem dX9_addTest_85 : decode cX9_addTest 85 = .ok (.aload_n 0, 1) := by decide +kernel
theorem dX9_addTest_86 : decode cX9_addTest 86 = .ok (.getfield 12, 3) := by decide +kernel
theorem dX9_addTest_89 : decode cX9_addTest 89 = .ok (.aload_n 0, 1) := by decide +kernel
theorem dX9_addTest_90 : decode cX9_addTest 90 = .ok (.getfield 56, 3) := by decide +kernel
theorem dX9_addTest_93 : decode cX9_addTest 93 = .ok (.invokevirtual 113, 3) := by decide +kernel
theorem dX9_addTest_96 : decode cX9_addTest 96 = .ok (.ireturn, 1) := by decide +kernel
theorem dX9_removeTest_0 : decode cX9_removeTest 0 = .ok (.aload_n 0, 1) := by decide +kernel
theorem dX9_removeTest_1 : decode cX9_removeTest 1 = .ok (.getfield 12, 3) := by decide +kernel
theorem dX9_removeTest_4 : decode cX9_removeTest 4 = .ok (.getfield 87, 3) := by decide +kernel
theorem dX9_removeTest_7 : decode cX9_removeTest 7 = .ok (.iload_n 1, 1) := by decide +kernel
theorem dX9_removeTest_8 : decode cX9_removeTest 8 = .ok (.invokevirtual 96, 3) := by decide +kernel
theorem dX9_removeTest_11 : decode cX9_removeTest 11 = .ok (.istore_n 2, 1) := by decide +kernel
theorem dX9_removeTest_12 : decode cX9_removeTest 12 = .ok (.iload_n 2, 1) := by decide +kernel
theorem dX9_removeTest_13 : decode cX9_removeTest 13 = .ok (.ifCond .ge 13, 3) := by decide +kernel
theorem dX9_removeTest_16 : decode cX9_removeTest 16 = .ok (.new 117, 3) := by decide +kernel
theorem dX9_removeTest_19 : decode cX9_removeTest 19 = .ok (.dup, 1) := by decide +kernel
theorem dX9_removeTest_20 : decode cX9_removeTest 20 = .ok (.ldc 119, 2) := by decide +kernel
theorem dX9_removeTest_22 : decode cX9_removeTest 22 = .ok (.invokespecial 121, 3) := by decide +kernel
theorem dX9_removeTest_25 : decode cX9_removeTest 25 = .ok (.athrow, 1) := by decide +kernel
theorem dX9_removeTest_26 : decode cX9_removeTest 26 = .ok (.aload_n 0, 1) := by decide +kernel
theorem dX9_removeTest_27 : decode cX9_removeTest 27 = .ok (.getfield 19, 3) := by decide +kernel
theorem dX9_removeTest_30 : decode cX9_removeTest 30 = .ok (.aload_n 0, 1) := by decide +kernel
theorem dX9_removeTest_31 : decode cX9_removeTest 31 = .ok (.getfield 12, 3) := by decide +kernel
theorem dX9_removeTest_34 : decode cX9_removeTest 34 = .ok (.invokevirtual 79, 3) := by decide +kernel
theorem dX9_removeTest_37 : decode cX9_removeTest 37 = .ok (.aload_n 0, 1) := by decide +kernel
theorem dX9_removeTest_38 : decode cX9_removeTest 38 = .ok (.getfield 12, 3) := by decide +kernel
theorem dX9_removeTest_41 : decode cX9_removeTest 41 = .ok (.getfield 87, 3) := by decide +kernel
theorem dX9_removeTest_44 : decode cX9_removeTest 44 = .ok (.getfield 122, 3) := by decide +kernel
theorem dX9_removeTest_47 : decode cX9_removeTest 47 = .ok (.iload_n 2, 1) := by decide +kernel
theorem dX9_removeTest_48 : decode cX9_removeTest 48 = .ok (.iaload, 1) := by decide +kernel
theorem dX9_removeTest_49 : decode cX9_removeTest 49 = .ok (.istore_n 3, 1) := by decide +kernel
theorem dX9_removeTest_50 : decode cX9_removeTest 50 = .ok (.aload_n 0, 1) := by decide +kernel
theorem dX9_removeTest_51 : decode cX9_removeTest 51 = .ok (.getfield 12, 3) := by decide +kernel
theorem dX9_removeTest_54 : decode cX9_removeTest 54 = .ok (.getfield 87, 3) := by decide +kernel
theorem dX9_removeTest_57 : decode cX9_removeTest 57 = .ok (.iload_n 2, 1) := by decide +kernel
theorem dX9_removeTest_58 : decode cX9_removeTest 58 = .ok (.invokevirtual 125, 3) := by decide +kernel
theorem dX9_removeTest_61 : decode cX9_removeTest 61 = .ok (.aload_n 0, 1) := by decide +kernel
theorem dX9_removeTest_62 : decode cX9_removeTest 62 = .ok (.getfield 41, 3) := by decide +kernel
theorem dX9_removeTest_65 : decode cX9_removeTest 65 = .ok (.iload_n 1, 1) := by decide +kernel
theorem dX9_removeTest_66 : decode cX9_removeTest 66 = .ok (.invokevirtual 110, 3) := by decide +kernel
theorem dX9_removeTest_69 : decode cX9_removeTest 69 = .ok (.iload_n 3, 1) := by decide +kernel
theorem dX9_removeTest_70 : decode cX9_removeTest 70 = .ok (.ireturn, 1) := by decide +kernel
theorem dX9_testCount_0 : decode cX9_testCount 0 = .ok (.aload_n 0, 1) := by decide +kernel
theorem dX9_testCount_1 : decode cX9_testCount 1 = .ok (.getfield 12, 3) := by decide +kernel
theorem dX9_testCount_4 : decode cX9_testCount 4 = .ok (.getfield 87, 3) := by decide +kernel
theorem dX9_testCount_7 : decode cX9_testCount 7 = .ok (.getfield 91, 3) := by decide +kernel
theorem dX9_testCount_10 : decode cX9_testCount 10 = .ok (.ireturn, 1) := by decide +kernel
theorem dX9_thresholdOn_0 : decode cX9_thresholdOn 0 = .ok (.iload_n 1, 1) := by decide +kernel
theorem dX9_thresholdOn_1 : decode cX9_thresholdOn 1 = .ok (.iconst 0, 1) := by decide +kernel
theorem dX9_thresholdOn_2 : decode cX9_thresholdOn 2 = .ok (.sipush 199, 3) := by decide +kernel
theorem dX9_thresholdOn_5 : decode cX9_thresholdOn 5 = .ok (.invokestatic 65, 3) := by decide +kernel
theorem dX9_thresholdOn_8 : decode cX9_thresholdOn 8 = .ok (.aload_n 0, 1) := by decide +kernel
theorem dX9_thresholdOn_9 : decode cX9_thresholdOn 9 = .ok (.getfield 12, 3) := by decide +kernel
theorem dX9_thresholdOn_12 : decode cX9_thresholdOn 12 = .ok (.getfield 87, 3) := by decide +kernel
theorem dX9_thresholdOn_15 : decode cX9_thresholdOn 15 = .ok (.iload_n 1, 1) := by decide +kernel
theorem dX9_thresholdOn_16 : decode cX9_thresholdOn 16 = .ok (.invokevirtual 128, 3) := by decide +kernel
theorem dX9_thresholdOn_19 : decode cX9_thresholdOn 19 = .ok (.ireturn, 1) := by decide +kernel
theorem dX9_setBound_0 : decode cX9_setBound 0 = .ok (.iload_n 1, 1) := by decide +kernel
theorem dX9_setBound_1 : decode cX9_setBound 1 = .ok (.iconst 2, 1) := by decide +kernel
theorem dX9_setBound_2 : decode cX9_setBound 2 = .ok (.iconst 5, 1) := by decide +kernel
theorem dX9_setBound_3 : decode cX9_setBound 3 = .ok (.invokestatic 65, 3) := by decide +kernel
theorem dX9_setBound_6 : decode cX9_setBound 6 = .ok (.iload_n 2, 1) := by decide +kernel
theorem dX9_setBound_7 : decode cX9_setBound 7 = .ok (.iconst 1, 1) := by decide +kernel
theorem dX9_setBound_8 : decode cX9_setBound 8 = .ok (.sipush 300, 3) := by decide +kernel
theorem dX9_setBound_11 : decode cX9_setBound 11 = .ok (.invokestatic 65, 3) := by decide +kernel
theorem dX9_setBound_14 : decode cX9_setBound 14 = .ok (.aload_n 0, 1) := by decide +kernel
theorem dX9_setBound_15 : decode cX9_setBound 15 = .ok (.getfield 12, 3) := by decide +kernel
theorem dX9_setBound_18 : decode cX9_setBound 18 = .ok (.getfield 131, 3) := by decide +kernel
theorem dX9_setBound_21 : decode cX9_setBound 21 = .ok (.iload_n 1, 1) := by decide +kernel
theorem dX9_setBound_22 : decode cX9_setBound 22 = .ok (.iload_n 2, 1) := by decide +kernel
theorem dX9_setBound_23 : decode cX9_setBound 23 = .ok (.invokevirtual 135, 3) := by decide +kernel
theorem dX9_setBound_26 : decode cX9_setBound 26 = .ok (.ifCond .ne 13, 3) := by decide +kernel
theorem dX9_setBound_29 : decode cX9_setBound 29 = .ok (.new 72, 3) := by decide +kernel
theorem dX9_setBound_32 : decode cX9_setBound 32 = .ok (.dup, 1) := by decide +kernel
theorem dX9_setBound_33 : decode cX9_setBound 33 = .ok (.ldc 141, 2) := by decide +kernel
theorem dX9_setBound_35 : decode cX9_setBound 35 = .ok (.invokespecial 76, 3) := by decide +kernel
theorem dX9_setBound_38 : decode cX9_setBound 38 = .ok (.athrow, 1) := by decide +kernel
theorem dX9_setBound_39 : decode cX9_setBound 39 = .ok (.aload_n 0, 1) := by decide +kernel
theorem dX9_setBound_40 : decode cX9_setBound 40 = .ok (.getfield 19, 3) := by decide +kernel
theorem dX9_setBound_43 : decode cX9_setBound 43 = .ok (.aload_n 0, 1) := by decide +kernel
theorem dX9_setBound_44 : decode cX9_setBound 44 = .ok (.getfield 12, 3) := by decide +kernel
theorem dX9_setBound_47 : decode cX9_setBound 47 = .ok (.invokevirtual 79, 3) := by decide +kernel
theorem dX9_setBound_50 : decode cX9_setBound 50 = .ok (.aload_n 0, 1) := by decide +kernel
theorem dX9_setBound_51 : decode cX9_setBound 51 = .ok (.getfield 12, 3) := by decide +kernel
theorem dX9_setBound_54 : decode cX9_setBound 54 = .ok (.getfield 131, 3) := by decide +kernel
theorem dX9_setBound_57 : decode cX9_setBound 57 = .ok (.getfield 143, 3) := by decide +kernel
theorem dX9_setBound_60 : decode cX9_setBound 60 = .ok (.iload_n 1, 1) := by decide +kernel
theorem dX9_setBound_61 : decode cX9_setBound 61 = .ok (.iaload, 1) := by decide +kernel
theorem dX9_setBound_62 : decode cX9_setBound 62 = .ok (.istore_n 3, 1) := by decide +kernel
theorem dX9_setBound_63 : decode cX9_setBound 63 = .ok (.aload_n 0, 1) := by decide +kernel
theorem dX9_setBound_64 : decode cX9_setBound 64 = .ok (.getfield 12, 3) := by decide +kernel
theorem dX9_setBound_67 : decode cX9_setBound 67 = .ok (.getfield 131, 3) := by decide +kernel
theorem dX9_setBound_70 : decode cX9_setBound 70 = .ok (.getfield 143, 3) := by decide +kernel
theorem dX9_setBound_73 : decode cX9_setBound 73 = .ok (.iload_n 1, 1) := by decide +kernel
theorem dX9_setBound_74 : decode cX9_setBound 74 = .ok (.iload_n 2, 1) := by decide +kernel
theorem dX9_setBound_75 : decode cX9_setBound 75 = .ok (.iastore, 1) := by decide +kernel
theorem dX9_setBound_76 : decode cX9_setBound 76 = .ok (.aload_n 0, 1) := by decide +kernel
theorem dX9_setBound_77 : decode cX9_setBound 77 = .ok (.getfield 41, 3) := by decide +kernel
theorem dX9_setBound_80 : decode cX9_setBound 80 = .ok (.iconst 0, 1) := by decide +kernel
theorem dX9_setBound_81 : decode cX9_setBound 81 = .ok (.invokevirtual 110, 3) := by decide +kernel
theorem dX9_setBound_84 : decode cX9_setBound 84 = .ok (.iload_n 3, 1) := by decide +kernel
theorem dX9_setBound_85 : decode cX9_setBound 85 = .ok (.ireturn, 1) := by decide +kernel
theorem dX9_boundOf_0 : decode cX9_boundOf 0 = .ok (.iload_n 1, 1) := by decide +kernel
theorem dX9_boundOf_1 : decode cX9_boundOf 1 = .ok (.iconst 2, 1) := by decide +kernel
theorem dX9_boundOf_2 : decode cX9_boundOf 2 = .ok (.iconst 5, 1) := by decide +kernel
theorem dX9_boundOf_3 : decode cX9_boundOf 3 = .ok (.invokestatic 65, 3) := by decide +kernel
theorem dX9_boundOf_6 : decode cX9_boundOf 6 = .ok (.aload_n 0, 1) := by decide +kernel
theorem dX9_boundOf_7 : decode cX9_boundOf 7 = .ok (.getfield 12, 3) := by decide +kernel
theorem dX9_boundOf_10 : decode cX9_boundOf 10 = .ok (.getfield 131, 3) := by decide +kernel
theorem dX9_boundOf_13 : decode cX9_boundOf 13 = .ok (.getfield 143, 3) := by decide +kernel
theorem dX9_boundOf_16 : decode cX9_boundOf 16 = .ok (.iload_n 1, 1) := by decide +kernel
theorem dX9_boundOf_17 : decode cX9_boundOf 17 = .ok (.iaload, 1) := by decide +kernel
theorem dX9_boundOf_18 : decode cX9_boundOf 18 = .ok (.ireturn, 1) := by decide +kernel
theorem dX9_setWeight_0 : decode cX9_setWeight 0 = .ok (.iload_n 1, 1) := by decide +kernel
theorem dX9_setWeight_1 : decode cX9_setWeight 1 = .ok (.invokestatic 146, 3) := by decide +kernel
theorem dX9_setWeight_4 : decode cX9_setWeight 4 = .ok (.iload_n 2, 1) := by decide +kernel
theorem dX9_setWeight_5 : decode cX9_setWeight 5 = .ok (.iconst 0, 1) := by decide +kernel
theorem dX9_setWeight_6 : decode cX9_setWeight 6 = .ok (.bipush 100, 2) := by decide +kernel
theorem dX9_setWeight_8 : decode cX9_setWeight 8 = .ok (.invokestatic 65, 3) := by decide +kernel
theorem dX9_setWeight_11 : decode cX9_setWeight 11 = .ok (.aload_n 0, 1) := by decide +kernel
theorem dX9_setWeight_12 : decode cX9_setWeight 12 = .ok (.getfield 19, 3) := by decide +kernel
theorem dX9_setWeight_15 : decode cX9_setWeight 15 = .ok (.aload_n 0, 1) := by decide +kernel
theorem dX9_setWeight_16 : decode cX9_setWeight 16 = .ok (.getfield 12, 3) := by decide +kernel
theorem dX9_setWeight_19 : decode cX9_setWeight 19 = .ok (.invokevirtual 79, 3) := by decide +kernel
theorem dX9_setWeight_22 : decode cX9_setWeight 22 = .ok (.aload_n 0, 1) := by decide +kernel
theorem dX9_setWeight_23 : decode cX9_setWeight 23 = .ok (.getfield 12, 3) := by decide +kernel
theorem dX9_setWeight_26 : decode cX9_setWeight 26 = .ok (.getfield 131, 3) := by decide +kernel
theorem dX9_setWeight_29 : decode cX9_setWeight 29 = .ok (.getfield 149, 3) := by decide +kernel
theorem dX9_setWeight_32 : decode cX9_setWeight 32 = .ok (.iload_n 1, 1) := by decide +kernel
theorem dX9_setWeight_33 : decode cX9_setWeight 33 = .ok (.iaload, 1) := by decide +kernel
theorem dX9_setWeight_34 : decode cX9_setWeight 34 = .ok (.istore_n 3, 1) := by decide +kernel
theorem dX9_setWeight_35 : decode cX9_setWeight 35 = .ok (.aload_n 0, 1) := by decide +kernel
theorem dX9_setWeight_36 : decode cX9_setWeight 36 = .ok (.getfield 12, 3) := by decide +kernel
theorem dX9_setWeight_39 : decode cX9_setWeight 39 = .ok (.getfield 131, 3) := by decide +kernel
theorem dX9_setWeight_42 : decode cX9_setWeight 42 = .ok (.getfield 149, 3) := by decide +kernel
theorem dX9_setWeight_45 : decode cX9_setWeight 45 = .ok (.iload_n 1, 1) := by decide +kernel
theorem dX9_setWeight_46 : decode cX9_setWeight 46 = .ok (.iload_n 2, 1) := by decide +kernel
theorem dX9_setWeight_47 : decode cX9_setWeight 47 = .ok (.iastore, 1) := by decide +kernel
theorem dX9_setWeight_48 : decode cX9_setWeight 48 = .ok (.aload_n 0, 1) := by decide +kernel
theorem dX9_setWeight_49 : decode cX9_setWeight 49 = .ok (.getfield 41, 3) := by decide +kernel
theorem dX9_setWeight_52 : decode cX9_setWeight 52 = .ok (.iconst 0, 1) := by decide +kernel
theorem dX9_setWeight_53 : decode cX9_setWeight 53 = .ok (.invokevirtual 110, 3) := by decide +kernel
theorem dX9_setWeight_56 : decode cX9_setWeight 56 = .ok (.iload_n 3, 1) := by decide +kernel
theorem dX9_setWeight_57 : decode cX9_setWeight 57 = .ok (.ireturn, 1) := by decide +kernel
theorem dX9_weightOf_0 : decode cX9_weightOf 0 = .ok (.iload_n 1, 1) := by decide +kernel
theorem dX9_weightOf_1 : decode cX9_weightOf 1 = .ok (.invokestatic 146, 3) := by decide +kernel
theorem dX9_weightOf_4 : decode cX9_weightOf 4 = .ok (.aload_n 0, 1) := by decide +kernel
theorem dX9_weightOf_5 : decode cX9_weightOf 5 = .ok (.getfield 12, 3) := by decide +kernel
theorem dX9_weightOf_8 : decode cX9_weightOf 8 = .ok (.getfield 131, 3) := by decide +kernel
theorem dX9_weightOf_11 : decode cX9_weightOf 11 = .ok (.getfield 149, 3) := by decide +kernel
theorem dX9_weightOf_14 : decode cX9_weightOf 14 = .ok (.iload_n 1, 1) := by decide +kernel
theorem dX9_weightOf_15 : decode cX9_weightOf 15 = .ok (.iaload, 1) := by decide +kernel
theorem dX9_weightOf_16 : decode cX9_weightOf 16 = .ok (.ireturn, 1) := by decide +kernel
theorem dX9_zoneOf_0 : decode cX9_zoneOf 0 = .ok (.iload_n 1, 1) := by decide +kernel
theorem dX9_zoneOf_1 : decode cX9_zoneOf 1 = .ok (.iconst 0, 1) := by decide +kernel
theorem dX9_zoneOf_2 : decode cX9_zoneOf 2 = .ok (.sipush 199, 3) := by decide +kernel
theorem dX9_zoneOf_5 : decode cX9_zoneOf 5 = .ok (.invokestatic 65, 3) := by decide +kernel
theorem dX9_zoneOf_8 : decode cX9_zoneOf 8 = .ok (.iload_n 2, 1) := by decide +kernel
theorem dX9_zoneOf_9 : decode cX9_zoneOf 9 = .ok (.iconst 0, 1) := by decide +kernel
theorem dX9_zoneOf_10 : decode cX9_zoneOf 10 = .ok (.sipush 500, 3) := by decide +kernel
theorem dX9_zoneOf_13 : decode cX9_zoneOf 13 = .ok (.invokestatic 65, 3) := by decide +kernel
theorem dX9_zoneOf_16 : decode cX9_zoneOf 16 = .ok (.aload_n 0, 1) := by decide +kernel
theorem dX9_zoneOf_17 : decode cX9_zoneOf 17 = .ok (.getfield 12, 3) := by decide +kernel
theorem dX9_zoneOf_20 : decode cX9_zoneOf 20 = .ok (.getfield 131, 3) := by decide +kernel
theorem dX9_zoneOf_23 : decode cX9_zoneOf 23 = .ok (.iload_n 2, 1) := by decide +kernel
theorem dX9_zoneOf_24 : decode cX9_zoneOf 24 = .ok (.aload_n 0, 1) := by decide +kernel
theorem dX9_zoneOf_25 : decode cX9_zoneOf 25 = .ok (.getfield 12, 3) := by decide +kernel
theorem dX9_zoneOf_28 : decode cX9_zoneOf 28 = .ok (.getfield 87, 3) := by decide +kernel
theorem dX9_zoneOf_31 : decode cX9_zoneOf 31 = .ok (.iload_n 1, 1) := by decide +kernel
theorem dX9_zoneOf_32 : decode cX9_zoneOf 32 = .ok (.invokevirtual 128, 3) := by decide +kernel
theorem dX9_zoneOf_35 : decode cX9_zoneOf 35 = .ok (.invokevirtual 152, 3) := by decide +kernel
theorem dX9_zoneOf_38 : decode cX9_zoneOf 38 = .ok (.ireturn, 1) := by decide +kernel
theorem dX9_addSession_0 : decode cX9_addSession 0 = .ok (.aload_n 0, 1) := by decide +kernel
theorem dX9_addSession_1 : decode cX9_addSession 1 = .ok (.iload_n 1, 1) := by decide +kernel
theorem dX9_addSession_2 : decode cX9_addSession 2 = .ok (.invokevirtual 83, 3) := by decide +kernel
theorem dX9_addSession_5 : decode cX9_addSession 5 = .ok (.aload_n 0, 1) := by decide +kernel
theorem dX9_addSession_6 : decode cX9_addSession 6 = .ok (.getfield 12, 3) := by decide +kernel
theorem dX9_addSession_9 : decode cX9_addSession 9 = .ok (.getfield 156, 3) := by decide +kernel
theorem dX9_addSession_12 : decode cX9_addSession 12 = .ok (.getfield 160, 3) := by decide +kernel
theorem dX9_addSession_15 : decode cX9_addSession 15 = .ok (.bipush 40, 2) := by decide +kernel
theorem dX9_addSession_17 : decode cX9_addSession 17 = .ok (.if_icmp .lt 13, 3) := by decide +kernel
theorem dX9_addSession_20 : decode cX9_addSession 20 = .ok (.new 72, 3) := by decide +kernel
theorem dX9_addSession_23 : decode cX9_addSession 23 = .ok (.dup, 1) := by decide +kernel
theorem dX9_addSession_24 : decode cX9_addSession 24 = .ok (.ldc 163, 2) := by decide +kernel
theorem dX9_addSession_26 : decode cX9_addSession 26 = .ok (.invokespecial 76, 3) := by decide +kernel
theorem dX9_addSession_29 : decode cX9_addSession 29 = .ok (.athrow, 1) := by decide +kernel
theorem dX9_addSession_30 : decode cX9_addSession 30 = .ok (.aload_n 0, 1) := by decide +kernel
theorem dX9_addSession_31 : decode cX9_addSession 31 = .ok (.getfield 19, 3) := by decide +kernel
theorem dX9_addSession_34 : decode cX9_addSession 34 = .ok (.aload_n 0, 1) := by decide +kernel
theorem dX9_addSession_35 : decode cX9_addSession 35 = .ok (.getfield 12, 3) := by decide +kernel
theorem dX9_addSession_38 : decode cX9_addSession 38 = .ok (.invokevirtual 79, 3) := by decide +kernel
theorem dX9_addSession_41 : decode cX9_addSession 41 = .ok (.aload_n 0, 1) := by decide +kernel
theorem dX9_addSession_42 : decode cX9_addSession 42 = .ok (.getfield 12, 3) := by decide +kernel
theorem dX9_addSession_45 : decode cX9_addSession 45 = .ok (.getfield 156, 3) := by decide +kernel
theorem dX9_addSession_48 : decode cX9_addSession 48 = .ok (.iload_n 1, 1) := by decide +kernel
theorem dX9_addSession_49 : decode cX9_addSession 49 = .ok (.invokevirtual 165, 3) := by decide +kernel
theorem dX9_addSession_52 : decode cX9_addSession 52 = .ok (.ireturn, 1) := by decide +kernel
theorem dX9_addPart_0 : decode cX9_addPart 0 = .ok (.aload_n 0, 1) := by decide +kernel
theorem dX9_addPart_1 : decode cX9_addPart 1 = .ok (.iload_n 1, 1) := by decide +kernel
theorem dX9_addPart_2 : decode cX9_addPart 2 = .ok (.invokevirtual 168, 3) := by decide +kernel
theorem dX9_addPart_5 : decode cX9_addPart 5 = .ok (.astore 4, 2) := by decide +kernel
theorem dX9_addPart_7 : decode cX9_addPart 7 = .ok (.iload_n 2, 1) := by decide +kernel
theorem dX9_addPart_8 : decode cX9_addPart 8 = .ok (.iconst 1, 1) := by decide +kernel
theorem dX9_addPart_9 : decode cX9_addPart 9 = .ok (.bipush 120, 2) := by decide +kernel
theorem dX9_addPart_11 : decode cX9_addPart 11 = .ok (.invokestatic 65, 3) := by decide +kernel
theorem dX9_addPart_14 : decode cX9_addPart 14 = .ok (.iload_n 3, 1) := by decide +kernel
theorem dX9_addPart_15 : decode cX9_addPart 15 = .ok (.iconst 0, 1) := by decide +kernel
theorem dX9_addPart_16 : decode cX9_addPart 16 = .ok (.sipush 500, 3) := by decide +kernel
theorem dX9_addPart_19 : decode cX9_addPart 19 = .ok (.invokestatic 65, 3) := by decide +kernel
theorem dX9_addPart_22 : decode cX9_addPart 22 = .ok (.aload 4, 2) := by decide +kernel
theorem dX9_addPart_24 : decode cX9_addPart 24 = .ok (.getfield 172, 3) := by decide +kernel
theorem dX9_addPart_27 : decode cX9_addPart 27 = .ok (.bipush 8, 2) := by decide +kernel
theorem dX9_addPart_29 : decode cX9_addPart 29 = .ok (.if_icmp .ge 16, 3) := by decide +kernel
theorem dX9_addPart_32 : decode cX9_addPart 32 = .ok (.aload 4, 2) := by decide +kernel
theorem dX9_addPart_34 : decode cX9_addPart 34 = .ok (.invokevirtual 177, 3) := by decide +kernel
theorem dX9_addPart_37 : decode cX9_addPart 37 = .ok (.iload_n 2, 1) := by decide +kernel
theorem dX9_addPart_38 : decode cX9_addPart 38 = .ok (.iadd, 1) := by decide +kernel
theorem dX9_addPart_39 : decode cX9_addPart 39 = .ok (.sipush 240, 3) := by decide +kernel
theorem dX9_addPart_42 : decode cX9_addPart 42 = .ok (.if_icmp .le 13, 3) := by decide +kernel
theorem dX9_addPart_45 : decode cX9_addPart 45 = .ok (.new 72, 3) := by decide +kernel
theorem dX9_addPart_48 : decode cX9_addPart 48 = .ok (.dup, 1) := by decide +kernel
theorem dX9_addPart_49 : decode cX9_addPart 49 = .ok (.ldc 181, 2) := by decide +kernel
theorem dX9_addPart_51 : decode cX9_addPart 51 = .ok (.invokespecial 76, 3) := by decide +kernel
theorem dX9_addPart_54 : decode cX9_addPart 54 = .ok (.athrow, 1) := by decide +kernel
theorem dX9_addPart_55 : decode cX9_addPart 55 = .ok (.aload_n 0, 1) := by decide +kernel
theorem dX9_addPart_56 : decode cX9_addPart 56 = .ok (.getfield 19, 3) := by decide +kernel
theorem dX9_addPart_59 : decode cX9_addPart 59 = .ok (.aload_n 0, 1) := by decide +kernel
theorem dX9_addPart_60 : decode cX9_addPart 60 = .ok (.getfield 12, 3) := by decide +kernel
theorem dX9_addPart_63 : decode cX9_addPart 63 = .ok (.invokevirtual 79, 3) := by decide +kernel
theorem dX9_addPart_66 : decode cX9_addPart 66 = .ok (.aload 4, 2) := by decide +kernel
theorem dX9_addPart_68 : decode cX9_addPart 68 = .ok (.iload_n 2, 1) := by decide +kernel
theorem dX9_addPart_69 : decode cX9_addPart 69 = .ok (.iload_n 3, 1) := by decide +kernel
theorem dX9_addPart_70 : decode cX9_addPart 70 = .ok (.invokevirtual 183, 3) := by decide +kernel
theorem dX9_addPart_73 : decode cX9_addPart 73 = .ok (.aload_n 0, 1) := by decide +kernel
theorem dX9_addPart_74 : decode cX9_addPart 74 = .ok (.getfield 41, 3) := by decide +kernel
theorem dX9_addPart_77 : decode cX9_addPart 77 = .ok (.aload 4, 2) := by decide +kernel
theorem dX9_addPart_79 : decode cX9_addPart 79 = .ok (.getfield 184, 3) := by decide +kernel
theorem dX9_addPart_82 : decode cX9_addPart 82 = .ok (.invokevirtual 110, 3) := by decide +kernel
theorem dX9_addPart_85 : decode cX9_addPart 85 = .ok (.aload 4, 2) := by decide +kernel
theorem dX9_addPart_87 : decode cX9_addPart 87 = .ok (.getfield 172, 3) := by decide +kernel
theorem dX9_addPart_90 : decode cX9_addPart 90 = .ok (.ireturn, 1) := by decide +kernel
theorem dX9_clearParts_0 : decode cX9_clearParts 0 = .ok (.aload_n 0, 1) := by decide +kernel
theorem dX9_clearParts_1 : decode cX9_clearParts 1 = .ok (.iload_n 1, 1) := by decide +kernel
theorem dX9_clearParts_2 : decode cX9_clearParts 2 = .ok (.invokevirtual 168, 3) := by decide +kernel
theorem dX9_clearParts_5 : decode cX9_clearParts 5 = .ok (.astore_n 2, 1) := by decide +kernel
theorem dX9_clearParts_6 : decode cX9_clearParts 6 = .ok (.aload_n 0, 1) := by decide +kernel
theorem dX9_clearParts_7 : decode cX9_clearParts 7 = .ok (.getfield 19, 3) := by decide +kernel
theorem dX9_clearParts_10 : decode cX9_clearParts 10 = .ok (.aload_n 0, 1) := by decide +kernel
theorem dX9_clearParts_11 : decode cX9_clearParts 11 = .ok (.getfield 12, 3) := by decide +kernel
theorem dX9_clearParts_14 : decode cX9_clearParts 14 = .ok (.invokevirtual 79, 3) := by decide +kernel
theorem dX9_clearParts_17 : decode cX9_clearParts 17 = .ok (.aload_n 2, 1) := by decide +kernel
theorem dX9_clearParts_18 : decode cX9_clearParts 18 = .ok (.getfield 172, 3) := by decide +kernel
theorem dX9_clearParts_21 : decode cX9_clearParts 21 = .ok (.istore_n 3, 1) := by decide +kernel
theorem dX9_clearParts_22 : decode cX9_clearParts 22 = .ok (.aload_n 2, 1) := by decide +kernel
theorem dX9_clearParts_23 : decode cX9_clearParts 23 = .ok (.iconst 0, 1) := by decide +kernel
theorem dX9_clearParts_24 : decode cX9_clearParts 24 = .ok (.putfield 172, 3) := by decide +kernel
theorem dX9_clearParts_27 : decode cX9_clearParts 27 = .ok (.aload_n 0, 1) := by decide +kernel
theorem dX9_clearParts_28 : decode cX9_clearParts 28 = .ok (.getfield 41, 3) := by decide +kernel
theorem dX9_clearParts_31 : decode cX9_clearParts 31 = .ok (.aload_n 2, 1) := by decide +kernel
theorem dX9_clearParts_32 : decode cX9_clearParts 32 = .ok (.getfield 184, 3) := by decide +kernel
theorem dX9_clearParts_35 : decode cX9_clearParts 35 = .ok (.invokevirtual 110, 3) := by decide +kernel
theorem dX9_clearParts_38 : decode cX9_clearParts 38 = .ok (.iload_n 3, 1) := by decide +kernel
theorem dX9_clearParts_39 : decode cX9_clearParts 39 = .ok (.ireturn, 1) := by decide +kernel
theorem dX9_moveSession_0 : decode cX9_moveSession 0 = .ok (.aload_n 0, 1) := by decide +kernel
theorem dX9_moveSession_1 : decode cX9_moveSession 1 = .ok (.iload_n 1, 1) := by decide +kernel
theorem dX9_moveSession_2 : decode cX9_moveSession 2 = .ok (.invokevirtual 187, 3) := by decide +kernel
theorem dX9_moveSession_5 : decode cX9_moveSession 5 = .ok (.istore_n 3, 1) := by decide +kernel
theorem dX9_moveSession_6 : decode cX9_moveSession 6 = .ok (.aload_n 0, 1) := by decide +kernel
theorem dX9_moveSession_7 : decode cX9_moveSession 7 = .ok (.iload_n 2, 1) := by decide +kernel
theorem dX9_moveSession_8 : decode cX9_moveSession 8 = .ok (.invokevirtual 83, 3) := by decide +kernel
theorem dX9_moveSession_11 : decode cX9_moveSession 11 = .ok (.aload_n 0, 1) := by decide +kernel
theorem dX9_moveSession_12 : decode cX9_moveSession 12 = .ok (.getfield 19, 3) := by decide +kernel
theorem dX9_moveSession_15 : decode cX9_moveSession 15 = .ok (.aload_n 0, 1) := by decide +kernel
theorem dX9_moveSession_16 : decode cX9_moveSession 16 = .ok (.getfield 12, 3) := by decide +kernel
theorem dX9_moveSession_19 : decode cX9_moveSession 19 = .ok (.invokevirtual 79, 3) := by decide +kernel
theorem dX9_moveSession_22 : decode cX9_moveSession 22 = .ok (.aload_n 0, 1) := by decide +kernel
theorem dX9_moveSession_23 : decode cX9_moveSession 23 = .ok (.getfield 12, 3) := by decide +kernel
theorem dX9_moveSession_26 : decode cX9_moveSession 26 = .ok (.getfield 156, 3) := by decide +kernel
theorem dX9_moveSession_29 : decode cX9_moveSession 29 = .ok (.iload_n 3, 1) := by decide +kernel
theorem dX9_moveSession_30 : decode cX9_moveSession 30 = .ok (.iload_n 2, 1) := by decide +kernel
theorem dX9_moveSession_31 : decode cX9_moveSession 31 = .ok (.invokevirtual 190, 3) := by decide +kernel
theorem dX9_moveSession_34 : decode cX9_moveSession 34 = .ok (.istore 4, 2) := by decide +kernel
theorem dX9_moveSession_36 : decode cX9_moveSession 36 = .ok (.aload_n 0, 1) := by decide +kernel
theorem dX9_moveSession_37 : decode cX9_moveSession 37 = .ok (.getfield 41, 3) := by decide +kernel
theorem dX9_moveSession_40 : decode cX9_moveSession 40 = .ok (.iload 4, 2) := by decide +kernel
theorem dX9_moveSession_42 : decode cX9_moveSession 42 = .ok (.iload_n 2, 1) := by decide +kernel
theorem dX9_moveSession_43 : decode cX9_moveSession 43 = .ok (.invokestatic 193, 3) := by decide +kernel
theorem dX9_moveSession_46 : decode cX9_moveSession 46 = .ok (.invokevirtual 110, 3) := by decide +kernel
theorem dX9_moveSession_49 : decode cX9_moveSession 49 = .ok (.iload 4, 2) := by decide +kernel
theorem dX9_moveSession_51 : decode cX9_moveSession 51 = .ok (.ireturn, 1) := by decide +kernel
theorem dX9_removeSession_0 : decode cX9_removeSession 0 = .ok (.aload_n 0, 1) := by decide +kernel
theorem dX9_removeSession_1 : decode cX9_removeSession 1 = .ok (.iload_n 1, 1) := by decide +kernel
theorem dX9_removeSession_2 : decode cX9_removeSession 2 = .ok (.invokevirtual 187, 3) := by decide +kernel
theorem dX9_removeSession_5 : decode cX9_removeSession 5 = .ok (.istore_n 2, 1) := by decide +kernel
theorem dX9_removeSession_6 : decode cX9_removeSession 6 = .ok (.aload_n 0, 1) := by decide +kernel
theorem dX9_removeSession_7 : decode cX9_removeSession 7 = .ok (.getfield 19, 3) := by decide +kernel
theorem dX9_removeSession_10 : decode cX9_removeSession 10 = .ok (.aload_n 0, 1) := by decide +kernel
theorem dX9_removeSession_11 : decode cX9_removeSession 11 = .ok (.getfield 12, 3) := by decide +kernel
theorem dX9_removeSession_14 : decode cX9_removeSession 14 = .ok (.invokevirtual 79, 3) := by decide +kernel
theorem dX9_removeSession_17 : decode cX9_removeSession 17 = .ok (.aload_n 0, 1) := by decide +kernel
theorem dX9_removeSession_18 : decode cX9_removeSession 18 = .ok (.getfield 12, 3) := by decide +kernel
theorem dX9_removeSession_21 : decode cX9_removeSession 21 = .ok (.getfield 156, 3) := by decide +kernel
theorem dX9_removeSession_24 : decode cX9_removeSession 24 = .ok (.iload_n 2, 1) := by decide +kernel
theorem dX9_removeSession_25 : decode cX9_removeSession 25 = .ok (.invokevirtual 198, 3) := by decide +kernel
theorem dX9_removeSession_28 : decode cX9_removeSession 28 = .ok (.istore_n 3, 1) := by decide +kernel
theorem dX9_removeSession_29 : decode cX9_removeSession 29 = .ok (.aload_n 0, 1) := by decide +kernel
theorem dX9_removeSession_30 : decode cX9_removeSession 30 = .ok (.getfield 41, 3) := by decide +kernel
theorem dX9_removeSession_33 : decode cX9_removeSession 33 = .ok (.iload_n 3, 1) := by decide +kernel
theorem dX9_removeSession_34 : decode cX9_removeSession 34 = .ok (.invokevirtual 110, 3) := by decide +kernel
theorem dX9_removeSession_37 : decode cX9_removeSession 37 = .ok (.aload_n 0, 1) := by decide +kernel
theorem dX9_removeSession_38 : decode cX9_removeSession 38 = .ok (.getfield 12, 3) := by decide +kernel
theorem dX9_removeSession_41 : decode cX9_removeSession 41 = .ok (.getfield 156, 3) := by decide +kernel
theorem dX9_removeSession_44 : decode cX9_removeSession 44 = .ok (.getfield 160, 3) := by decide +kernel
theorem dX9_removeSession_47 : decode cX9_removeSession 47 = .ok (.ireturn, 1) := by decide +kernel
theorem dX9_sessionCount_0 : decode cX9_sessionCount 0 = .ok (.aload_n 0, 1) := by decide +kernel
theorem dX9_sessionCount_1 : decode cX9_sessionCount 1 = .ok (.getfield 12, 3) := by decide +kernel
theorem dX9_sessionCount_4 : decode cX9_sessionCount 4 = .ok (.getfield 156, 3) := by decide +kernel
theorem dX9_sessionCount_7 : decode cX9_sessionCount 7 = .ok (.getfield 160, 3) := by decide +kernel
theorem dX9_sessionCount_10 : decode cX9_sessionCount 10 = .ok (.ireturn, 1) := by decide +kernel
theorem dX9_sessionAt_0 : decode cX9_sessionAt 0 = .ok (.iload_n 1, 1) := by decide +kernel
theorem dX9_sessionAt_1 : decode cX9_sessionAt 1 = .ok (.ifCond .lt 17, 3) := by decide +kernel
theorem dX9_sessionAt_4 : decode cX9_sessionAt 4 = .ok (.iload_n 1, 1) := by decide +kernel
theorem dX9_sessionAt_5 : decode cX9_sessionAt 5 = .ok (.aload_n 0, 1) := by decide +kernel
theorem dX9_sessionAt_6 : decode cX9_sessionAt 6 = .ok (.getfield 12, 3) := by decide +kernel
theorem dX9_sessionAt_9 : decode cX9_sessionAt 9 = .ok (.getfield 156, 3) := by decide +kernel
theorem dX9_sessionAt_12 : decode cX9_sessionAt 12 = .ok (.getfield 160, 3) := by decide +kernel
theorem dX9_sessionAt_15 : decode cX9_sessionAt 15 = .ok (.if_icmp .lt 13, 3) := by decide +kernel
theorem dX9_sessionAt_18 : decode cX9_sessionAt 18 = .ok (.new 200, 3) := by decide +kernel
theorem dX9_sessionAt_21 : decode cX9_sessionAt 21 = .ok (.dup, 1) := by decide +kernel
theorem dX9_sessionAt_22 : decode cX9_sessionAt 22 = .ok (.ldc 202, 2) := by decide +kernel
theorem dX9_sessionAt_24 : decode cX9_sessionAt 24 = .ok (.invokespecial 204, 3) := by decide +kernel
theorem dX9_sessionAt_27 : decode cX9_sessionAt 27 = .ok (.athrow, 1) := by decide +kernel
theorem dX9_sessionAt_28 : decode cX9_sessionAt 28 = .ok (.aload_n 0, 1) := by decide +kernel
theorem dX9_sessionAt_29 : decode cX9_sessionAt 29 = .ok (.getfield 12, 3) := by decide +kernel
theorem dX9_sessionAt_32 : decode cX9_sessionAt 32 = .ok (.getfield 156, 3) := by decide +kernel
theorem dX9_sessionAt_35 : decode cX9_sessionAt 35 = .ok (.getfield 205, 3) := by decide +kernel
theorem dX9_sessionAt_38 : decode cX9_sessionAt 38 = .ok (.iload_n 1, 1) := by decide +kernel
theorem dX9_sessionAt_39 : decode cX9_sessionAt 39 = .ok (.aaload, 1) := by decide +kernel
theorem dX9_sessionAt_40 : decode cX9_sessionAt 40 = .ok (.getfield 209, 3) := by decide +kernel
theorem dX9_sessionAt_43 : decode cX9_sessionAt 43 = .ok (.ireturn, 1) := by decide +kernel
theorem dX9_dayOf_0 : decode cX9_dayOf 0 = .ok (.aload_n 0, 1) := by decide +kernel
theorem dX9_dayOf_1 : decode cX9_dayOf 1 = .ok (.iload_n 1, 1) := by decide +kernel
theorem dX9_dayOf_2 : decode cX9_dayOf 2 = .ok (.invokevirtual 168, 3) := by decide +kernel
theorem dX9_dayOf_5 : decode cX9_dayOf 5 = .ok (.getfield 184, 3) := by decide +kernel
theorem dX9_dayOf_8 : decode cX9_dayOf 8 = .ok (.ireturn, 1) := by decide +kernel
theorem dX9_minutesOf_0 : decode cX9_minutesOf 0 = .ok (.aload_n 0, 1) := by decide +kernel
theorem dX9_minutesOf_1 : decode cX9_minutesOf 1 = .ok (.iload_n 1, 1) := by decide +kernel
theorem dX9_minutesOf_2 : decode cX9_minutesOf 2 = .ok (.invokevirtual 168, 3) := by decide +kernel
theorem dX9_minutesOf_5 : decode cX9_minutesOf 5 = .ok (.invokevirtual 177, 3) := by decide +kernel
theorem dX9_minutesOf_8 : decode cX9_minutesOf 8 = .ok (.ireturn, 1) := by decide +kernel
theorem dX9_minutesInZone_0 : decode cX9_minutesInZone 0 = .ok (.aload_n 0, 1) := by decide +kernel
theorem dX9_minutesInZone_1 : decode cX9_minutesInZone 1 = .ok (.iload_n 1, 1) := by decide +kernel
theorem dX9_minutesInZone_2 : decode cX9_minutesInZone 2 = .ok (.invokevirtual 168, 3) := by decide +kernel
theorem dX9_minutesInZone_5 : decode cX9_minutesInZone 5 = .ok (.astore_n 3, 1) := by decide +kernel
theorem dX9_minutesInZone_6 : decode cX9_minutesInZone 6 = .ok (.iload_n 2, 1) := by decide +kernel
theorem dX9_minutesInZone_7 : decode cX9_minutesInZone 7 = .ok (.invokestatic 146, 3) := by decide +kernel
theorem dX9_minutesInZone_10 : decode cX9_minutesInZone 10 = .ok (.aload_n 0, 1) := by decide +kernel
theorem dX9_minutesInZone_11 : decode cX9_minutesInZone 11 = .ok (.getfield 59, 3) := by decide +kernel
theorem dX9_minutesInZone_14 : decode cX9_minutesInZone 14 = .ok (.invokestatic 212, 3) := by decide +kernel
theorem dX9_minutesInZone_17 : decode cX9_minutesInZone 17 = .ok (.aload_n 0, 1) := by decide +kernel
theorem dX9_minutesInZone_18 : decode cX9_minutesInZone 18 = .ok (.getfield 12, 3) := by decide +kernel
theorem dX9_minutesInZone_21 : decode cX9_minutesInZone 21 = .ok (.aload_n 3, 1) := by decide +kernel
theorem dX9_minutesInZone_22 : decode cX9_minutesInZone 22 = .ok (.aload_n 0, 1) := by decide +kernel
theorem dX9_minutesInZone_23 : decode cX9_minutesInZone 23 = .ok (.getfield 59, 3) := by decide +kernel
theorem dX9_minutesInZone_26 : decode cX9_minutesInZone 26 = .ok (.invokevirtual 215, 3) := by decide +kernel
theorem dX9_minutesInZone_29 : decode cX9_minutesInZone 29 = .ok (.aload_n 0, 1) := by decide +kernel
theorem dX9_minutesInZone_30 : decode cX9_minutesInZone 30 = .ok (.getfield 59, 3) := by decide +kernel
theorem dX9_minutesInZone_33 : decode cX9_minutesInZone 33 = .ok (.iload_n 2, 1) := by decide +kernel
theorem dX9_minutesInZone_34 : decode cX9_minutesInZone 34 = .ok (.iaload, 1) := by decide +kernel
theorem dX9_minutesInZone_35 : decode cX9_minutesInZone 35 = .ok (.ireturn, 1) := by decide +kernel
theorem dX9_loadOf_0 : decode cX9_loadOf 0 = .ok (.aload_n 0, 1) := by decide +kernel
theorem dX9_loadOf_1 : decode cX9_loadOf 1 = .ok (.getfield 12, 3) := by decide +kernel
theorem dX9_loadOf_4 : decode cX9_loadOf 4 = .ok (.aload_n 0, 1) := by decide +kernel
theorem dX9_loadOf_5 : decode cX9_loadOf 5 = .ok (.iload_n 1, 1) := by decide +kernel
theorem dX9_loadOf_6 : decode cX9_loadOf 6 = .ok (.invokevirtual 168, 3) := by decide +kernel
theorem dX9_loadOf_9 : decode cX9_loadOf 9 = .ok (.invokevirtual 219, 3) := by decide +kernel
theorem dX9_loadOf_12 : decode cX9_loadOf 12 = .ok (.ireturn, 1) := by decide +kernel
theorem dX9_loadOn_0 : decode cX9_loadOn 0 = .ok (.aload_n 0, 1) := by decide +kernel
theorem dX9_loadOn_1 : decode cX9_loadOn 1 = .ok (.iload_n 1, 1) := by decide +kernel
theorem dX9_loadOn_2 : decode cX9_loadOn 2 = .ok (.invokevirtual 83, 3) := by decide +kernel
theorem dX9_loadOn_5 : decode cX9_loadOn 5 = .ok (.aload_n 0, 1) := by decide +kernel
theorem dX9_loadOn_6 : decode cX9_loadOn 6 = .ok (.getfield 12, 3) := by decide +kernel
theorem dX9_loadOn_9 : decode cX9_loadOn 9 = .ok (.aload_n 0, 1) := by decide +kernel
theorem dX9_loadOn_10 : decode cX9_loadOn 10 = .ok (.getfield 52, 3) := by decide +kernel
theorem dX9_loadOn_13 : decode cX9_loadOn 13 = .ok (.invokevirtual 223, 3) := by decide +kernel
theorem dX9_loadOn_16 : decode cX9_loadOn 16 = .ok (.aload_n 0, 1) := by decide +kernel
theorem dX9_loadOn_17 : decode cX9_loadOn 17 = .ok (.getfield 52, 3) := by decide +kernel
theorem dX9_loadOn_20 : decode cX9_loadOn 20 = .ok (.iload_n 1, 1) := by decide +kernel
theorem dX9_loadOn_21 : decode cX9_loadOn 21 = .ok (.iaload, 1) := by decide +kernel
theorem dX9_loadOn_22 : decode cX9_loadOn 22 = .ok (.ireturn, 1) := by decide +kernel
theorem dX9_zoneShare_0 : decode cX9_zoneShare 0 = .ok (.iload_n 1, 1) := by decide +kernel
theorem dX9_zoneShare_1 : decode cX9_zoneShare 1 = .ok (.invokestatic 146, 3) := by decide +kernel
theorem dX9_zoneShare_4 : decode cX9_zoneShare 4 = .ok (.aload_n 0, 1) := by decide +kernel
theorem dX9_zoneShare_5 : decode cX9_zoneShare 5 = .ok (.getfield 59, 3) := by decide +kernel
theorem dX9_zoneShare_8 : decode cX9_zoneShare 8 = .ok (.invokestatic 212, 3) := by decide +kernel
theorem dX9_zoneShare_11 : decode cX9_zoneShare 11 = .ok (.iconst 0, 1) := by decide +kernel
theorem dX9_zoneShare_12 : decode cX9_zoneShare 12 = .ok (.istore_n 2, 1) := by decide +kernel
theorem dX9_zoneShare_13 : decode cX9_zoneShare 13 = .ok (.iconst 0, 1) := by decide +kernel
theorem dX9_zoneShare_14 : decode cX9_zoneShare 14 = .ok (.istore_n 3, 1) := by decide +kernel
theorem dX9_zoneShare_15 : decode cX9_zoneShare 15 = .ok (.iload_n 3, 1) := by decide +kernel
theorem dX9_zoneShare_16 : decode cX9_zoneShare 16 = .ok (.aload_n 0, 1) := by decide +kernel
theorem dX9_zoneShare_17 : decode cX9_zoneShare 17 = .ok (.getfield 12, 3) := by decide +kernel
theorem dX9_zoneShare_20 : decode cX9_zoneShare 20 = .ok (.getfield 156, 3) := by decide +kernel
theorem dX9_zoneShare_23 : decode cX9_zoneShare 23 = .ok (.getfield 160, 3) := by decide +kernel
theorem dX9_zoneShare_26 : decode cX9_zoneShare 26 = .ok (.if_icmp .ge 44, 3) := by decide +kernel
theorem dX9_zoneShare_29 : decode cX9_zoneShare 29 = .ok (.aload_n 0, 1) := by decide +kernel
theorem dX9_zoneShare_30 : decode cX9_zoneShare 30 = .ok (.getfield 12, 3) := by decide +kernel
theorem dX9_zoneShare_33 : decode cX9_zoneShare 33 = .ok (.getfield 156, 3) := by decide +kernel
theorem dX9_zoneShare_36 : decode cX9_zoneShare 36 = .ok (.getfield 205, 3) := by decide +kernel
theorem dX9_zoneShare_39 : decode cX9_zoneShare 39 = .ok (.iload_n 3, 1) := by decide +kernel
theorem dX9_zoneShare_40 : decode cX9_zoneShare 40 = .ok (.aaload, 1) := by decide +kernel
theorem dX9_zoneShare_41 : decode cX9_zoneShare 41 = .ok (.astore 4, 2) := by decide +kernel
theorem dX9_zoneShare_43 : decode cX9_zoneShare 43 = .ok (.aload_n 0, 1) := by decide +kernel
theorem dX9_zoneShare_44 : decode cX9_zoneShare 44 = .ok (.getfield 12, 3) := by decide +kernel
theorem dX9_zoneShare_47 : decode cX9_zoneShare 47 = .ok (.aload 4, 2) := by decide +kernel
theorem dX9_zoneShare_49 : decode cX9_zoneShare 49 = .ok (.aload_n 0, 1) := by decide +kernel
theorem dX9_zoneShare_50 : decode cX9_zoneShare 50 = .ok (.getfield 59, 3) := by decide +kernel
theorem dX9_zoneShare_53 : decode cX9_zoneShare 53 = .ok (.invokevirtual 215, 3) := by decide +kernel
theorem dX9_zoneShare_56 : decode cX9_zoneShare 56 = .ok (.iload_n 2, 1) := by decide +kernel
theorem dX9_zoneShare_57 : decode cX9_zoneShare 57 = .ok (.aload 4, 2) := by decide +kernel
theorem dX9_zoneShare_59 : decode cX9_zoneShare 59 = .ok (.invokevirtual 177, 3) := by decide +kernel
theorem dX9_zoneShare_62 : decode cX9_zoneShare 62 = .ok (.iadd, 1) := by decide +kernel
theorem dX9_zoneShare_63 : decode cX9_zoneShare 63 = .ok (.istore_n 2, 1) := by decide +kernel
theorem dX9_zoneShare_64 : decode cX9_zoneShare 64 = .ok (.iinc 3 1, 3) := by decide +kernel
theorem dX9_zoneShare_67 : decode cX9_zoneShare 67 = .ok (.goto (-52), 3) := by decide +kernel
theorem dX9_zoneShare_70 : decode cX9_zoneShare 70 = .ok (.iload_n 2, 1) := by decide +kernel
theorem dX9_zoneShare_71 : decode cX9_zoneShare 71 = .ok (.ifCond .ne 13, 3) := by decide +kernel
theorem dX9_zoneShare_74 : decode cX9_zoneShare 74 = .ok (.new 226, 3) := by decide +kernel
theorem dX9_zoneShare_77 : decode cX9_zoneShare 77 = .ok (.dup, 1) := by decide +kernel
theorem dX9_zoneShare_78 : decode cX9_zoneShare 78 = .ok (.ldc 228, 2) := by decide +kernel
theorem dX9_zoneShare_80 : decode cX9_zoneShare 80 = .ok (.invokespecial 230, 3) := by decide +kernel
theorem dX9_zoneShare_83 : decode cX9_zoneShare 83 = .ok (.athrow, 1) := by decide +kernel
theorem dX9_zoneShare_84 : decode cX9_zoneShare 84 = .ok (.aload_n 0, 1) := by decide +kernel
theorem dX9_zoneShare_85 : decode cX9_zoneShare 85 = .ok (.getfield 59, 3) := by decide +kernel
theorem dX9_zoneShare_88 : decode cX9_zoneShare 88 = .ok (.iload_n 1, 1) := by decide +kernel
theorem dX9_zoneShare_89 : decode cX9_zoneShare 89 = .ok (.iaload, 1) := by decide +kernel
theorem dX9_zoneShare_90 : decode cX9_zoneShare 90 = .ok (.i2f, 1) := by decide +kernel
theorem dX9_zoneShare_91 : decode cX9_zoneShare 91 = .ok (.iload_n 2, 1) := by decide +kernel
theorem dX9_zoneShare_92 : decode cX9_zoneShare 92 = .ok (.i2f, 1) := by decide +kernel
theorem dX9_zoneShare_93 : decode cX9_zoneShare 93 = .ok (.fdiv, 1) := by decide +kernel
theorem dX9_zoneShare_94 : decode cX9_zoneShare 94 = .ok (.freturn, 1) := by decide +kernel
theorem dX9_startPlan_0 : decode cX9_startPlan 0 = .ok (.aload_n 0, 1) := by decide +kernel
theorem dX9_startPlan_1 : decode cX9_startPlan 1 = .ok (.getfield 19, 3) := by decide +kernel
theorem dX9_startPlan_4 : decode cX9_startPlan 4 = .ok (.aload_n 0, 1) := by decide +kernel
theorem dX9_startPlan_5 : decode cX9_startPlan 5 = .ok (.getfield 12, 3) := by decide +kernel
theorem dX9_startPlan_8 : decode cX9_startPlan 8 = .ok (.invokevirtual 79, 3) := by decide +kernel
theorem dX9_startPlan_11 : decode cX9_startPlan 11 = .ok (.aload_n 0, 1) := by decide +kernel
theorem dX9_startPlan_12 : decode cX9_startPlan 12 = .ok (.getfield 12, 3) := by decide +kernel
theorem dX9_startPlan_15 : decode cX9_startPlan 15 = .ok (.getfield 281, 3) := by decide +kernel
theorem dX9_startPlan_18 : decode cX9_startPlan 18 = .ok (.getfield 285, 3) := by decide +kernel
theorem dX9_startPlan_21 : decode cX9_startPlan 21 = .ok (.istore_n 1, 1) := by decide +kernel
theorem dX9_startPlan_22 : decode cX9_startPlan 22 = .ok (.aload_n 0, 1) := by decide +kernel
theorem dX9_startPlan_23 : decode cX9_startPlan 23 = .ok (.getfield 12, 3) := by decide +kernel
theorem dX9_startPlan_26 : decode cX9_startPlan 26 = .ok (.getfield 281, 3) := by decide +kernel
theorem dX9_startPlan_29 : decode cX9_startPlan 29 = .ok (.aload_n 0, 1) := by decide +kernel
theorem dX9_startPlan_30 : decode cX9_startPlan 30 = .ok (.getfield 12, 3) := by decide +kernel
theorem dX9_startPlan_33 : decode cX9_startPlan 33 = .ok (.getfield 69, 3) := by decide +kernel
theorem dX9_startPlan_36 : decode cX9_startPlan 36 = .ok (.invokevirtual 290, 3) := by decide +kernel
theorem dX9_startPlan_39 : decode cX9_startPlan 39 = .ok (.iload_n 1, 1) := by decide +kernel
theorem dX9_startPlan_40 : decode cX9_startPlan 40 = .ok (.ireturn, 1) := by decide +kernel
theorem dX9_addTarget_0 : decode cX9_addTarget 0 = .ok (.iload_n 1, 1) := by decide +kernel
theorem dX9_addTarget_1 : decode cX9_addTarget 1 = .ok (.iconst 0, 1) := by decide +kernel
theorem dX9_addTarget_2 : decode cX9_addTarget 2 = .ok (.sipush 20000, 3) := by decide +kernel
theorem dX9_addTarget_5 : decode cX9_addTarget 5 = .ok (.invokestatic 65, 3) := by decide +kernel
theorem dX9_addTarget_8 : decode cX9_addTarget 8 = .ok (.aload_n 0, 1) := by decide +kernel
theorem dX9_addTarget_9 : decode cX9_addTarget 9 = .ok (.getfield 12, 3) := by decide +kernel
theorem dX9_addTarget_12 : decode cX9_addTarget 12 = .ok (.getfield 281, 3) := by decide +kernel
theorem dX9_addTarget_15 : decode cX9_addTarget 15 = .ok (.astore_n 2, 1) := by decide +kernel
theorem dX9_addTarget_16 : decode cX9_addTarget 16 = .ok (.aload_n 2, 1) := by decide +kernel
theorem dX9_addTarget_17 : decode cX9_addTarget 17 = .ok (.getfield 293, 3) := by decide +kernel
theorem dX9_addTarget_20 : decode cX9_addTarget 20 = .ok (.ifCond .eq 26, 3) := by decide +kernel
theorem dX9_addTarget_23 : decode cX9_addTarget 23 = .ok (.aload_n 2, 1) := by decide +kernel
theorem dX9_addTarget_24 : decode cX9_addTarget 24 = .ok (.getfield 296, 3) := by decide +kernel
theorem dX9_addTarget_27 : decode cX9_addTarget 27 = .ok (.aload_n 0, 1) := by decide +kernel
theorem dX9_addTarget_28 : decode cX9_addTarget 28 = .ok (.getfield 12, 3) := by decide +kernel
theorem dX9_addTarget_31 : decode cX9_addTarget 31 = .ok (.getfield 69, 3) := by decide +kernel
theorem dX9_addTarget_34 : decode cX9_addTarget 34 = .ok (.if_icmp .ne 12, 3) := by decide +kernel
theorem dX9_addTarget_37 : decode cX9_addTarget 37 = .ok (.aload_n 2, 1) := by decide +kernel
theorem dX9_addTarget_38 : decode cX9_addTarget 38 = .ok (.getfield 285, 3) := by decide +kernel
theorem dX9_addTarget_41 : decode cX9_addTarget 41 = .ok (.bipush 28, 2) := by decide +kernel
theorem dX9_addTarget_43 : decode cX9_addTarget 43 = .ok (.if_icmp .lt 14, 3) := by decide +kernel
theorem dX9_addTarget_46 : decode cX9_addTarget 46 = .ok (.new 72, 3) := by decide +kernel
theorem dX9_addTarget_49 : decode cX9_addTarget 49 = .ok (.dup, 1) := by decide +kernel
theorem dX9_addTarget_50 : decode cX9_addTarget 50 = .ok (.ldc_w 299, 3) := by decide +kernel
theorem dX9_addTarget_53 : decode cX9_addTarget 53 = .ok (.invokespecial 76, 3) := by decide +kernel
theorem dX9_addTarget_56 : decode cX9_addTarget 56 = .ok (.athrow, 1) := by decide +kernel
theorem dX9_addTarget_57 : decode cX9_addTarget 57 = .ok (.aload_n 0, 1) := by decide +kernel
theorem dX9_addTarget_58 : decode cX9_addTarget 58 = .ok (.getfield 19, 3) := by decide +kernel
theorem dX9_addTarget_61 : decode cX9_addTarget 61 = .ok (.aload_n 0, 1) := by decide +kernel
theorem dX9_addTarget_62 : decode cX9_addTarget 62 = .ok (.getfield 12, 3) := by decide +kernel
theorem dX9_addTarget_65 : decode cX9_addTarget 65 = .ok (.invokevirtual 79, 3) := by decide +kernel
theorem dX9_addTarget_68 : decode cX9_addTarget 68 = .ok (.aload_n 2, 1) := by decide +kernel
theorem dX9_addTarget_69 : decode cX9_addTarget 69 = .ok (.iload_n 1, 1) := by decide +kernel
theorem dX9_addTarget_70 : decode cX9_addTarget 70 = .ok (.invokevirtual 301, 3) := by decide +kernel
theorem dX9_addTarget_73 : decode cX9_addTarget 73 = .ok (.aload_n 2, 1) := by decide +kernel
theorem dX9_addTarget_74 : decode cX9_addTarget 74 = .ok (.getfield 285, 3) := by decide +kernel
theorem dX9_addTarget_77 : decode cX9_addTarget 77 = .ok (.ireturn, 1) := by decide +kernel
theorem dX9_targetAt_0 : decode cX9_targetAt 0 = .ok (.iload_n 1, 1) := by decide +kernel
theorem dX9_targetAt_1 : decode cX9_targetAt 1 = .ok (.ifCond .lt 17, 3) := by decide +kernel
theorem dX9_targetAt_4 : decode cX9_targetAt 4 = .ok (.iload_n 1, 1) := by decide +kernel
theorem dX9_targetAt_5 : decode cX9_targetAt 5 = .ok (.aload_n 0, 1) := by decide +kernel
theorem dX9_targetAt_6 : decode cX9_targetAt 6 = .ok (.getfield 12, 3) := by decide +kernel
theorem dX9_targetAt_9 : decode cX9_targetAt 9 = .ok (.getfield 281, 3) := by decide +kernel
theorem dX9_targetAt_12 : decode cX9_targetAt 12 = .ok (.getfield 285, 3) := by decide +kernel
theorem dX9_targetAt_15 : decode cX9_targetAt 15 = .ok (.if_icmp .lt 14, 3) := by decide +kernel
theorem dX9_targetAt_18 : decode cX9_targetAt 18 = .ok (.new 200, 3) := by decide +kernel
theorem dX9_targetAt_21 : decode cX9_targetAt 21 = .ok (.dup, 1) := by decide +kernel
theorem dX9_targetAt_22 : decode cX9_targetAt 22 = .ok (.ldc_w 303, 3) := by decide +kernel
theorem dX9_targetAt_25 : decode cX9_targetAt 25 = .ok (.invokespecial 204, 3) := by decide +kernel
theorem dX9_targetAt_28 : decode cX9_targetAt 28 = .ok (.athrow, 1) := by decide +kernel
theorem dX9_targetAt_29 : decode cX9_targetAt 29 = .ok (.aload_n 0, 1) := by decide +kernel
theorem dX9_targetAt_30 : decode cX9_targetAt 30 = .ok (.getfield 12, 3) := by decide +kernel
theorem dX9_targetAt_33 : decode cX9_targetAt 33 = .ok (.getfield 281, 3) := by decide +kernel
theorem dX9_targetAt_36 : decode cX9_targetAt 36 = .ok (.getfield 305, 3) := by decide +kernel
theorem dX9_targetAt_39 : decode cX9_targetAt 39 = .ok (.iload_n 1, 1) := by decide +kernel
theorem dX9_targetAt_40 : decode cX9_targetAt 40 = .ok (.iaload, 1) := by decide +kernel
theorem dX9_targetAt_41 : decode cX9_targetAt 41 = .ok (.ireturn, 1) := by decide +kernel
theorem dX9_dueEntry_0 : decode cX9_dueEntry 0 = .ok (.aload_n 0, 1) := by decide +kernel
theorem dX9_dueEntry_1 : decode cX9_dueEntry 1 = .ok (.invokevirtual 308, 3) := by decide +kernel
theorem dX9_dueEntry_4 : decode cX9_dueEntry 4 = .ok (.ireturn, 1) := by decide +kernel
theorem dX9_missedDays_0 : decode cX9_missedDays 0 = .ok (.aload_n 0, 1) := by decide +kernel
theorem dX9_missedDays_1 : decode cX9_missedDays 1 = .ok (.invokevirtual 311, 3) := by decide +kernel
theorem dX9_missedDays_4 : decode cX9_missedDays 4 = .ok (.aload_n 0, 1) := by decide +kernel
theorem dX9_missedDays_5 : decode cX9_missedDays 5 = .ok (.getfield 48, 3) := by decide +kernel
theorem dX9_missedDays_8 : decode cX9_missedDays 8 = .ok (.getfield 314, 3) := by decide +kernel
theorem dX9_missedDays_11 : decode cX9_missedDays 11 = .ok (.ireturn, 1) := by decide +kernel
theorem dX9_droppedEntries_0 : decode cX9_droppedEntries 0 = .ok (.aload_n 0, 1) := by decide +kernel
theorem dX9_droppedEntries_1 : decode cX9_droppedEntries 1 = .ok (.invokevirtual 311, 3) := by decide +kernel
theorem dX9_droppedEntries_4 : decode cX9_droppedEntries 4 = .ok (.aload_n 0, 1) := by decide +kernel
theorem dX9_droppedEntries_5 : decode cX9_droppedEntries 5 = .ok (.getfield 48, 3) := by decide +kernel
theorem dX9_droppedEntries_8 : decode cX9_droppedEntries 8 = .ok (.getfield 317, 3) := by decide +kernel
theorem dX9_droppedEntries_11 : decode cX9_droppedEntries 11 = .ok (.ireturn, 1) := by decide +kernel
theorem dX9_planEnd_0 : decode cX9_planEnd 0 = .ok (.aload_n 0, 1) := by decide +kernel
theorem dX9_planEnd_1 : decode cX9_planEnd 1 = .ok (.getfield 12, 3) := by decide +kernel
theorem dX9_planEnd_4 : decode cX9_planEnd 4 = .ok (.getfield 281, 3) := by decide +kernel
theorem dX9_planEnd_7 : decode cX9_planEnd 7 = .ok (.getfield 285, 3) := by decide +kernel
theorem dX9_planEnd_10 : decode cX9_planEnd 10 = .ok (.iconst 1, 1) := by decide +kernel
theorem dX9_planEnd_11 : decode cX9_planEnd 11 = .ok (.isub, 1) := by decide +kernel
theorem dX9_planEnd_12 : decode cX9_planEnd 12 = .ok (.aload_n 0, 1) := by decide +kernel
theorem dX9_planEnd_13 : decode cX9_planEnd 13 = .ok (.invokevirtual 308, 3) := by decide +kernel
theorem dX9_planEnd_16 : decode cX9_planEnd 16 = .ok (.isub, 1) := by decide +kernel
theorem dX9_planEnd_17 : decode cX9_planEnd 17 = .ok (.istore_n 1, 1) := by decide +kernel
theorem dX9_planEnd_18 : decode cX9_planEnd 18 = .ok (.aload_n 0, 1) := by decide +kernel
theorem dX9_planEnd_19 : decode cX9_planEnd 19 = .ok (.getfield 12, 3) := by decide +kernel
theorem dX9_planEnd_22 : decode cX9_planEnd 22 = .ok (.getfield 69, 3) := by decide +kernel
theorem dX9_planEnd_25 : decode cX9_planEnd 25 = .ok (.iload_n 1, 1) := by decide +kernel
theorem dX9_planEnd_26 : decode cX9_planEnd 26 = .ok (.iadd, 1) := by decide +kernel
theorem dX9_planEnd_27 : decode cX9_planEnd 27 = .ok (.ireturn, 1) := by decide +kernel
theorem dX9_isPlanOver_0 : decode cX9_isPlanOver 0 = .ok (.aload_n 0, 1) := by decide +kernel
theorem dX9_isPlanOver_1 : decode cX9_isPlanOver 1 = .ok (.invokevirtual 311, 3) := by decide +kernel
theorem dX9_isPlanOver_4 : decode cX9_isPlanOver 4 = .ok (.aload_n 0, 1) := by decide +kernel
theorem dX9_isPlanOver_5 : decode cX9_isPlanOver 5 = .ok (.getfield 12, 3) := by decide +kernel
theorem dX9_isPlanOver_8 : decode cX9_isPlanOver 8 = .ok (.getfield 281, 3) := by decide +kernel
theorem dX9_isPlanOver_11 : decode cX9_isPlanOver 11 = .ok (.getfield 293, 3) := by decide +kernel
theorem dX9_isPlanOver_14 : decode cX9_isPlanOver 14 = .ok (.ifCond .eq 27, 3) := by decide +kernel
theorem dX9_isPlanOver_17 : decode cX9_isPlanOver 17 = .ok (.aload_n 0, 1) := by decide +kernel
theorem dX9_isPlanOver_18 : decode cX9_isPlanOver 18 = .ok (.getfield 48, 3) := by decide +kernel
theorem dX9_isPlanOver_21 : decode cX9_isPlanOver 21 = .ok (.getfield 320, 3) := by decide +kernel
theorem dX9_isPlanOver_24 : decode cX9_isPlanOver 24 = .ok (.aload_n 0, 1) := by decide +kernel
theorem dX9_isPlanOver_25 : decode cX9_isPlanOver 25 = .ok (.getfield 12, 3) := by decide +kernel
theorem dX9_isPlanOver_28 : decode cX9_isPlanOver 28 = .ok (.getfield 281, 3) := by decide +kernel
theorem dX9_isPlanOver_31 : decode cX9_isPlanOver 31 = .ok (.getfield 285, 3) := by decide +kernel
theorem dX9_isPlanOver_34 : decode cX9_isPlanOver 34 = .ok (.if_icmp .lt 7, 3) := by decide +kernel
theorem dX9_isPlanOver_37 : decode cX9_isPlanOver 37 = .ok (.iconst 1, 1) := by decide +kernel
theorem dX9_isPlanOver_38 : decode cX9_isPlanOver 38 = .ok (.goto 4, 3) := by decide +kernel
theorem dX9_isPlanOver_41 : decode cX9_isPlanOver 41 = .ok (.iconst 0, 1) := by decide +kernel
theorem dX9_isPlanOver_42 : decode cX9_isPlanOver 42 = .ok (.ireturn, 1) := by decide +kernel
theorem dX9_writeWeek_0 : decode cX9_writeWeek 0 = .ok (.aload_n 0, 1) := by decide +kernel
theorem dX9_writeWeek_1 : decode cX9_writeWeek 1 = .ok (.iload_n 1, 1) := by decide +kernel
theorem dX9_writeWeek_2 : decode cX9_writeWeek 2 = .ok (.invokevirtual 83, 3) := by decide +kernel
theorem dX9_writeWeek_5 : decode cX9_writeWeek 5 = .ok (.iconst 0, 1) := by decide +kernel
theorem dX9_writeWeek_6 : decode cX9_writeWeek 6 = .ok (.istore_n 2, 1) := by decide +kernel
theorem dX9_writeWeek_7 : decode cX9_writeWeek 7 = .ok (.iload_n 2, 1) := by decide +kernel
theorem dX9_writeWeek_8 : decode cX9_writeWeek 8 = .ok (.bipush 7, 2) := by decide +kernel
theorem dX9_writeWeek_10 : decode cX9_writeWeek 10 = .ok (.if_icmp .ge 40, 3) := by decide +kernel
theorem dX9_writeWeek_13 : decode cX9_writeWeek 13 = .ok (.iload_n 2, 1) := by decide +kernel
theorem dX9_writeWeek_14 : decode cX9_writeWeek 14 = .ok (.ifCond .le 15, 3) := by decide +kernel
theorem dX9_writeWeek_17 : decode cX9_writeWeek 17 = .ok (.aload_n 0, 1) := by decide +kernel
theorem dX9_writeWeek_18 : decode cX9_writeWeek 18 = .ok (.getfield 30, 3) := by decide +kernel
theorem dX9_writeWeek_21 : decode cX9_writeWeek 21 = .ok (.iconst 2, 1) := by decide +kernel
theorem dX9_writeWeek_22 : decode cX9_writeWeek 22 = .ok (.iload_n 2, 1) := by decide +kernel
theorem dX9_writeWeek_23 : decode cX9_writeWeek 23 = .ok (.imul, 1) := by decide +kernel
theorem dX9_writeWeek_24 : decode cX9_writeWeek 24 = .ok (.iconst 1, 1) := by decide +kernel
theorem dX9_writeWeek_25 : decode cX9_writeWeek 25 = .ok (.isub, 1) := by decide +kernel
theorem dX9_writeWeek_26 : decode cX9_writeWeek 26 = .ok (.bipush 32, 2) := by decide +kernel
theorem dX9_writeWeek_28 : decode cX9_writeWeek 28 = .ok (.castore, 1) := by decide +kernel
theorem dX9_writeWeek_29 : decode cX9_writeWeek 29 = .ok (.aload_n 0, 1) := by decide +kernel
theorem dX9_writeWeek_30 : decode cX9_writeWeek 30 = .ok (.getfield 30, 3) := by decide +kernel
theorem dX9_writeWeek_33 : decode cX9_writeWeek 33 = .ok (.iconst 2, 1) := by decide +kernel
theorem dX9_writeWeek_34 : decode cX9_writeWeek 34 = .ok (.iload_n 2, 1) := by decide +kernel
theorem dX9_writeWeek_35 : decode cX9_writeWeek 35 = .ok (.imul, 1) := by decide +kernel
theorem dX9_writeWeek_36 : decode cX9_writeWeek 36 = .ok (.aload_n 0, 1) := by decide +kernel
theorem dX9_writeWeek_37 : decode cX9_writeWeek 37 = .ok (.iload_n 1, 1) := by decide +kernel
theorem dX9_writeWeek_38 : decode cX9_writeWeek 38 = .ok (.iload_n 2, 1) := by decide +kernel
theorem dX9_writeWeek_39 : decode cX9_writeWeek 39 = .ok (.iadd, 1) := by decide +kernel
theorem dX9_writeWeek_40 : decode cX9_writeWeek 40 = .ok (.invokevirtual 323, 3) := by decide +kernel
theorem dX9_writeWeek_43 : decode cX9_writeWeek 43 = .ok (.castore, 1) := by decide +kernel
theorem dX9_writeWeek_44 : decode cX9_writeWeek 44 = .ok (.iinc 2 1, 3) := by decide +kernel
theorem dX9_writeWeek_47 : decode cX9_writeWeek 47 = .ok (.goto (-40), 3) := by decide +kernel
theorem dX9_writeWeek_50 : decode cX9_writeWeek 50 = .ok (.aload_n 0, 1) := by decide +kernel
theorem dX9_writeWeek_51 : decode cX9_writeWeek 51 = .ok (.bipush 13, 2) := by decide +kernel
theorem dX9_writeWeek_53 : decode cX9_writeWeek 53 = .ok (.putfield 34, 3) := by decide +kernel
theorem dX9_writeWeek_56 : decode cX9_writeWeek 56 = .ok (.aload_n 0, 1) := by decide +kernel
theorem dX9_writeWeek_57 : decode cX9_writeWeek 57 = .ok (.getfield 34, 3) := by decide +kernel
theorem dX9_writeWeek_60 : decode cX9_writeWeek 60 = .ok (.ireturn, 1) := by decide +kernel
theorem dX9_lineAt_0 : decode cX9_lineAt 0 = .ok (.iload_n 1, 1) := by decide +kernel
theorem dX9_lineAt_1 : decode cX9_lineAt 1 = .ok (.ifCond .lt 11, 3) := by decide +kernel
theorem dX9_lineAt_4 : decode cX9_lineAt 4 = .ok (.iload_n 1, 1) := by decide +kernel
theorem dX9_lineAt_5 : decode cX9_lineAt 5 = .ok (.aload_n 0, 1) := by decide +kernel
theorem dX9_lineAt_6 : decode cX9_lineAt 6 = .ok (.getfield 34, 3) := by decide +kernel
theorem dX9_lineAt_9 : decode cX9_lineAt 9 = .ok (.if_icmp .lt 14, 3) := by decide +kernel
theorem dX9_lineAt_12 : decode cX9_lineAt 12 = .ok (.new 200, 3) := by decide +kernel
theorem dX9_lineAt_15 : decode cX9_lineAt 15 = .ok (.dup, 1) := by decide +kernel
theorem dX9_lineAt_16 : decode cX9_lineAt 16 = .ok (.ldc_w 327, 3) := by decide +kernel
theorem dX9_lineAt_19 : decode cX9_lineAt 19 = .ok (.invokespecial 204, 3) := by decide +kernel
theorem dX9_lineAt_22 : decode cX9_lineAt 22 = .ok (.athrow, 1) := by decide +kernel
theorem dX9_lineAt_23 : decode cX9_lineAt 23 = .ok (.aload_n 0, 1) := by decide +kernel
theorem dX9_lineAt_24 : decode cX9_lineAt 24 = .ok (.getfield 30, 3) := by decide +kernel
theorem dX9_lineAt_27 : decode cX9_lineAt 27 = .ok (.iload_n 1, 1) := by decide +kernel
theorem dX9_lineAt_28 : decode cX9_lineAt 28 = .ok (.caload, 1) := by decide +kernel
theorem dX9_lineAt_29 : decode cX9_lineAt 29 = .ok (.ireturn, 1) := by decide +kernel
theorem dX9_undo_0 : decode cX9_undo 0 = .ok (.aload_n 0, 1) := by decide +kernel
theorem dX9_undo_1 : decode cX9_undo 1 = .ok (.getfield 19, 3) := by decide +kernel
theorem dX9_undo_4 : decode cX9_undo 4 = .ok (.getfield 329, 3) := by decide +kernel
theorem dX9_undo_7 : decode cX9_undo 7 = .ok (.ifCond .ne 14, 3) := by decide +kernel
theorem dX9_undo_10 : decode cX9_undo 10 = .ok (.new 72, 3) := by decide +kernel
theorem dX9_undo_13 : decode cX9_undo 13 = .ok (.dup, 1) := by decide +kernel
theorem dX9_undo_14 : decode cX9_undo 14 = .ok (.ldc_w 330, 3) := by decide +kernel
theorem dX9_undo_17 : decode cX9_undo 17 = .ok (.invokespecial 76, 3) := by decide +kernel
theorem dX9_undo_20 : decode cX9_undo 20 = .ok (.athrow, 1) := by decide +kernel
theorem dX9_undo_21 : decode cX9_undo 21 = .ok (.aload_n 0, 1) := by decide +kernel
theorem dX9_undo_22 : decode cX9_undo 22 = .ok (.getfield 19, 3) := by decide +kernel
theorem dX9_undo_25 : decode cX9_undo 25 = .ok (.aload_n 0, 1) := by decide +kernel
theorem dX9_undo_26 : decode cX9_undo 26 = .ok (.getfield 12, 3) := by decide +kernel
theorem dX9_undo_29 : decode cX9_undo 29 = .ok (.invokevirtual 332, 3) := by decide +kernel
theorem dX9_undo_32 : decode cX9_undo 32 = .ok (.aload_n 0, 1) := by decide +kernel
theorem dX9_undo_33 : decode cX9_undo 33 = .ok (.getfield 41, 3) := by decide +kernel
theorem dX9_undo_36 : decode cX9_undo 36 = .ok (.iconst 0, 1) := by decide +kernel
theorem dX9_undo_37 : decode cX9_undo 37 = .ok (.invokevirtual 110, 3) := by decide +kernel
theorem dX9_undo_40 : decode cX9_undo 40 = .ok (.aload_n 0, 1) := by decide +kernel
theorem dX9_undo_41 : decode cX9_undo 41 = .ok (.getfield 19, 3) := by decide +kernel
theorem dX9_undo_44 : decode cX9_undo 44 = .ok (.getfield 329, 3) := by decide +kernel
theorem dX9_undo_47 : decode cX9_undo 47 = .ok (.ireturn, 1) := by decide +kernel
theorem dX9_save_0 : decode cX9_save 0 = .ok (.aload_n 0, 1) := by decide +kernel
theorem dX9_save_1 : decode cX9_save 1 = .ok (.getfield 23, 3) := by decide +kernel
theorem dX9_save_4 : decode cX9_save 4 = .ok (.aload_n 0, 1) := by decide +kernel
theorem dX9_save_5 : decode cX9_save 5 = .ok (.getfield 12, 3) := by decide +kernel
theorem dX9_save_8 : decode cX9_save 8 = .ok (.invokevirtual 335, 3) := by decide +kernel
theorem dX9_save_11 : decode cX9_save 11 = .ok (.aload_n 0, 1) := by decide +kernel
theorem dX9_save_12 : decode cX9_save 12 = .ok (.iconst 1, 1) := by decide +kernel
theorem dX9_save_13 : decode cX9_save 13 = .ok (.putfield 26, 3) := by decide +kernel
theorem dX9_save_16 : decode cX9_save 16 = .ok (.aload_n 0, 1) := by decide +kernel
theorem dX9_save_17 : decode cX9_save 17 = .ok (.getfield 12, 3) := by decide +kernel
theorem dX9_save_20 : decode cX9_save 20 = .ok (.getfield 156, 3) := by decide +kernel
theorem dX9_save_23 : decode cX9_save 23 = .ok (.getfield 160, 3) := by decide +kernel
theorem dX9_save_26 : decode cX9_save 26 = .ok (.ireturn, 1) := by decide +kernel
theorem dX9_restore_0 : decode cX9_restore 0 = .ok (.aload_n 0, 1) := by decide +kernel
theorem dX9_restore_1 : decode cX9_restore 1 = .ok (.getfield 26, 3) := by decide +kernel
theorem dX9_restore_4 : decode cX9_restore 4 = .ok (.ifCond .ne 14, 3) := by decide +kernel
theorem dX9_restore_7 : decode cX9_restore 7 = .ok (.new 72, 3) := by decide +kernel
theorem dX9_restore_10 : decode cX9_restore 10 = .ok (.dup, 1) := by decide +kernel
theorem dX9_restore_11 : decode cX9_restore 11 = .ok (.ldc_w 338, 3) := by decide +kernel
theorem dX9_restore_14 : decode cX9_restore 14 = .ok (.invokespecial 76, 3) := by decide +kernel
theorem dX9_restore_17 : decode cX9_restore 17 = .ok (.athrow, 1) := by decide +kernel
theorem dX9_restore_18 : decode cX9_restore 18 = .ok (.aload_n 0, 1) := by decide +kernel
theorem dX9_restore_19 : decode cX9_restore 19 = .ok (.getfield 12, 3) := by decide +kernel
theorem dX9_restore_22 : decode cX9_restore 22 = .ok (.aload_n 0, 1) := by decide +kernel
theorem dX9_restore_23 : decode cX9_restore 23 = .ok (.getfield 23, 3) := by decide +kernel
theorem dX9_restore_26 : decode cX9_restore 26 = .ok (.invokevirtual 335, 3) := by decide +kernel
theorem dX9_restore_29 : decode cX9_restore 29 = .ok (.aload_n 0, 1) := by decide +kernel
theorem dX9_restore_30 : decode cX9_restore 30 = .ok (.getfield 19, 3) := by decide +kernel
theorem dX9_restore_33 : decode cX9_restore 33 = .ok (.invokevirtual 340, 3) := by decide +kernel
theorem dX9_restore_36 : decode cX9_restore 36 = .ok (.aload_n 0, 1) := by decide +kernel
theorem dX9_restore_37 : decode cX9_restore 37 = .ok (.getfield 41, 3) := by decide +kernel
theorem dX9_restore_40 : decode cX9_restore 40 = .ok (.iconst 0, 1) := by decide +kernel
theorem dX9_restore_41 : decode cX9_restore 41 = .ok (.invokevirtual 110, 3) := by decide +kernel
theorem dX9_restore_44 : decode cX9_restore 44 = .ok (.aload_n 0, 1) := by decide +kernel
theorem dX9_restore_45 : decode cX9_restore 45 = .ok (.getfield 12, 3) := by decide +kernel
theorem dX9_restore_48 : decode cX9_restore 48 = .ok (.getfield 156, 3) := by decide +kernel
theorem dX9_restore_51 : decode cX9_restore 51 = .ok (.getfield 160, 3) := by decide +kernel
theorem dX9_restore_54 : decode cX9_restore 54 = .ok (.ireturn, 1) := by decide +kernel
theorem dX9_requireRange_0 : decode cX9_requireRange 0 = .ok (.iload_n 0, 1) := by decide +kernel
theorem dX9_requireRange_1 : decode cX9_requireRange 1 = .ok (.iload_n 1, 1) := by decide +kernel
theorem dX9_requireRange_2 : decode cX9_requireRange 2 = .ok (.if_icmp .lt 8, 3) := by decide +kernel
theorem dX9_requireRange_5 : decode cX9_requireRange 5 = .ok (.iload_n 0, 1) := by decide +kernel
theorem dX9_requireRange_6 : decode cX9_requireRange 6 = .ok (.iload_n 2, 1) := by decide +kernel
theorem dX9_requireRange_7 : decode cX9_requireRange 7 = .ok (.if_icmp .le 14, 3) := by decide +kernel
theorem dX9_requireRange_10 : decode cX9_requireRange 10 = .ok (.new 343, 3) := by decide +kernel
theorem dX9_requireRange_13 : decode cX9_requireRange 13 = .ok (.dup, 1) := by decide +kernel
theorem dX9_requireRange_14 : decode cX9_requireRange 14 = .ok (.ldc_w 345, 3) := by decide +kernel
theorem dX9_requireRange_17 : decode cX9_requireRange 17 = .ok (.invokespecial 347, 3) := by decide +kernel
theorem dX9_requireRange_20 : decode cX9_requireRange 20 = .ok (.athrow, 1) := by decide +kernel
theorem dX9_requireRange_21 : decode cX9_requireRange 21 = .ok (.return_, 1) := by decide +kernel
theorem dX9_requireZone_0 : decode cX9_requireZone 0 = .ok (.iload_n 0, 1) := by decide +kernel
theorem dX9_requireZone_1 : decode cX9_requireZone 1 = .ok (.iconst 1, 1) := by decide +kernel
theorem dX9_requireZone_2 : decode cX9_requireZone 2 = .ok (.iconst 5, 1) := by decide +kernel
theorem dX9_requireZone_3 : decode cX9_requireZone 3 = .ok (.invokestatic 65, 3) := by decide +kernel
theorem dX9_requireZone_6 : decode cX9_requireZone 6 = .ok (.return_, 1) := by decide +kernel
theorem dX9_requireDayUpToToday_0 : decode cX9_requireDayUpToToday 0 = .ok (.iload_n 1, 1) := by decide +kernel
theorem dX9_requireDayUpToToday_1 : decode cX9_requireDayUpToToday 1 = .ok (.iconst 0, 1) := by decide +kernel
theorem dX9_requireDayUpToToday_2 : decode cX9_requireDayUpToToday 2 = .ok (.aload_n 0, 1) := by decide +kernel
theorem dX9_requireDayUpToToday_3 : decode cX9_requireDayUpToToday 3 = .ok (.getfield 12, 3) := by decide +kernel
theorem dX9_requireDayUpToToday_6 : decode cX9_requireDayUpToToday 6 = .ok (.getfield 69, 3) := by decide +kernel
theorem dX9_requireDayUpToToday_9 : decode cX9_requireDayUpToToday 9 = .ok (.invokestatic 65, 3) := by decide +kernel
theorem dX9_requireDayUpToToday_12 : decode cX9_requireDayUpToToday 12 = .ok (.return_, 1) := by decide +kernel
theorem dX9_existingPosition_0 : decode cX9_existingPosition 0 = .ok (.aload_n 0, 1) := by decide +kernel
theorem dX9_existingPosition_1 : decode cX9_existingPosition 1 = .ok (.getfield 12, 3) := by decide +kernel
theorem dX9_existingPosition_4 : decode cX9_existingPosition 4 = .ok (.getfield 156, 3) := by decide +kernel
theorem dX9_existingPosition_7 : decode cX9_existingPosition 7 = .ok (.iload_n 1, 1) := by decide +kernel
theorem dX9_existingPosition_8 : decode cX9_existingPosition 8 = .ok (.invokevirtual 356, 3) := by decide +kernel
theorem dX9_existingPosition_11 : decode cX9_existingPosition 11 = .ok (.istore_n 2, 1) := by decide +kernel
theorem dX9_existingPosition_12 : decode cX9_existingPosition 12 = .ok (.iload_n 2, 1) := by decide +kernel
theorem dX9_existingPosition_13 : decode cX9_existingPosition 13 = .ok (.ifCond .ge 14, 3) := by decide +kernel
theorem dX9_existingPosition_16 : decode cX9_existingPosition 16 = .ok (.new 117, 3) := by decide +kernel
theorem dX9_existingPosition_19 : decode cX9_existingPosition 19 = .ok (.dup, 1) := by decide +kernel
theorem dX9_existingPosition_20 : decode cX9_existingPosition 20 = .ok (.ldc_w 359, 3) := by decide +kernel
theorem dX9_existingPosition_23 : decode cX9_existingPosition 23 = .ok (.invokespecial 121, 3) := by decide +kernel
theorem dX9_existingPosition_26 : decode cX9_existingPosition 26 = .ok (.athrow, 1) := by decide +kernel
theorem dX9_existingPosition_27 : decode cX9_existingPosition 27 = .ok (.iload_n 2, 1) := by decide +kernel
theorem dX9_existingPosition_28 : decode cX9_existingPosition 28 = .ok (.ireturn, 1) := by decide +kernel
theorem dX9_existingSession_0 : decode cX9_existingSession 0 = .ok (.aload_n 0, 1) := by decide +kernel
theorem dX9_existingSession_1 : decode cX9_existingSession 1 = .ok (.getfield 12, 3) := by decide +kernel
theorem dX9_existingSession_4 : decode cX9_existingSession 4 = .ok (.getfield 156, 3) := by decide +kernel
theorem dX9_existingSession_7 : decode cX9_existingSession 7 = .ok (.getfield 205, 3) := by decide +kernel
theorem dX9_existingSession_10 : decode cX9_existingSession 10 = .ok (.aload_n 0, 1) := by decide +kernel
theorem dX9_existingSession_11 : decode cX9_existingSession 11 = .ok (.iload_n 1, 1) := by decide +kernel
theorem dX9_existingSession_12 : decode cX9_existingSession 12 = .ok (.invokevirtual 187, 3) := by decide +kernel
theorem dX9_existingSession_15 : decode cX9_existingSession 15 = .ok (.aaload, 1) := by decide +kernel
theorem dX9_existingSession_16 : decode cX9_existingSession 16 = .ok (.areturn, 1) := by decide +kernel
theorem dX9_clear_0 : decode cX9_clear 0 = .ok (.iconst 0, 1) := by decide +kernel
theorem dX9_clear_1 : decode cX9_clear 1 = .ok (.istore_n 1, 1) := by decide +kernel
theorem dX9_clear_2 : decode cX9_clear 2 = .ok (.iload_n 1, 1) := by decide +kernel
theorem dX9_clear_3 : decode cX9_clear 3 = .ok (.aload_n 0, 1) := by decide +kernel
theorem dX9_clear_4 : decode cX9_clear 4 = .ok (.arraylength, 1) := by decide +kernel
theorem dX9_clear_5 : decode cX9_clear 5 = .ok (.if_icmp .ge 13, 3) := by decide +kernel
theorem dX9_clear_8 : decode cX9_clear 8 = .ok (.aload_n 0, 1) := by decide +kernel
theorem dX9_clear_9 : decode cX9_clear 9 = .ok (.iload_n 1, 1) := by decide +kernel
theorem dX9_clear_10 : decode cX9_clear 10 = .ok (.iconst 0, 1) := by decide +kernel
theorem dX9_clear_11 : decode cX9_clear 11 = .ok (.iastore, 1) := by decide +kernel
theorem dX9_clear_12 : decode cX9_clear 12 = .ok (.iinc 1 1, 3) := by decide +kernel
theorem dX9_clear_15 : decode cX9_clear 15 = .ok (.goto (-13), 3) := by decide +kernel
theorem dX9_clear_18 : decode cX9_clear 18 = .ok (.return_, 1) := by decide +kernel
theorem dX9_followPlan_0 : decode cX9_followPlan 0 = .ok (.aload_n 0, 1) := by decide +kernel
theorem dX9_followPlan_1 : decode cX9_followPlan 1 = .ok (.getfield 12, 3) := by decide +kernel
theorem dX9_followPlan_4 : decode cX9_followPlan 4 = .ok (.aload_n 0, 1) := by decide +kernel
