theorem dX9_followPlan_5 : decode cX9_followPlan 5 = .ok (.getfield 52, 3) := by decide +kernel
theorem dX9_followPlan_8 : decode cX9_followPlan 8 = .ok (.invokevirtual 223, 3) := by decide +kernel
theorem dX9_followPlan_11 : decode cX9_followPlan 11 = .ok (.aload_n 0, 1) := by decide +kernel
theorem dX9_followPlan_12 : decode cX9_followPlan 12 = .ok (.getfield 48, 3) := by decide +kernel
theorem dX9_followPlan_15 : decode cX9_followPlan 15 = .ok (.aload_n 0, 1) := by decide +kernel
theorem dX9_followPlan_16 : decode cX9_followPlan 16 = .ok (.getfield 12, 3) := by decide +kernel
theorem dX9_followPlan_19 : decode cX9_followPlan 19 = .ok (.getfield 281, 3) := by decide +kernel
theorem dX9_followPlan_22 : decode cX9_followPlan 22 = .ok (.aload_n 0, 1) := by decide +kernel
theorem dX9_followPlan_23 : decode cX9_followPlan 23 = .ok (.getfield 12, 3) := by decide +kernel
theorem dX9_followPlan_26 : decode cX9_followPlan 26 = .ok (.getfield 69, 3) := by decide +kernel
theorem dX9_followPlan_29 : decode cX9_followPlan 29 = .ok (.aload_n 0, 1) := by decide +kernel
theorem dX9_followPlan_30 : decode cX9_followPlan 30 = .ok (.getfield 52, 3) := by decide +kernel
theorem dX9_followPlan_33 : decode cX9_followPlan 33 = .ok (.invokevirtual 367, 3) := by decide +kernel
theorem dX9_followPlan_36 : decode cX9_followPlan 36 = .ok (.return_, 1) := by decide +kernel
theorem dX9_existingDueEntry_0 : decode cX9_existingDueEntry 0 = .ok (.aload_n 0, 1) := by decide +kernel
theorem dX9_existingDueEntry_1 : decode cX9_existingDueEntry 1 = .ok (.invokevirtual 311, 3) := by decide +kernel
theorem dX9_existingDueEntry_4 : decode cX9_existingDueEntry 4 = .ok (.aload_n 0, 1) := by decide +kernel
theorem dX9_existingDueEntry_5 : decode cX9_existingDueEntry 5 = .ok (.getfield 48, 3) := by decide +kernel
theorem dX9_existingDueEntry_8 : decode cX9_existingDueEntry 8 = .ok (.getfield 320, 3) := by decide +kernel
theorem dX9_existingDueEntry_11 : decode cX9_existingDueEntry 11 = .ok (.aload_n 0, 1) := by decide +kernel
theorem dX9_existingDueEntry_12 : decode cX9_existingDueEntry 12 = .ok (.getfield 12, 3) := by decide +kernel
theorem dX9_existingDueEntry_15 : decode cX9_existingDueEntry 15 = .ok (.getfield 281, 3) := by decide +kernel
theorem dX9_existingDueEntry_18 : decode cX9_existingDueEntry 18 = .ok (.getfield 285, 3) := by decide +kernel
theorem dX9_existingDueEntry_21 : decode cX9_existingDueEntry 21 = .ok (.if_icmp .lt 14, 3) := by decide +kernel
theorem dX9_existingDueEntry_24 : decode cX9_existingDueEntry 24 = .ok (.new 117, 3) := by decide +kernel
theorem dX9_existingDueEntry_27 : decode cX9_existingDueEntry 27 = .ok (.dup, 1) := by decide +kernel
theorem dX9_existingDueEntry_28 : decode cX9_existingDueEntry 28 = .ok (.ldc_w 371, 3) := by decide +kernel
theorem dX9_existingDueEntry_31 : decode cX9_existingDueEntry 31 = .ok (.invokespecial 121, 3) := by decide +kernel
theorem dX9_existingDueEntry_34 : decode cX9_existingDueEntry 34 = .ok (.athrow, 1) := by decide +kernel
theorem dX9_existingDueEntry_35 : decode cX9_existingDueEntry 35 = .ok (.aload_n 0, 1) := by decide +kernel
theorem dX9_existingDueEntry_36 : decode cX9_existingDueEntry 36 = .ok (.getfield 48, 3) := by decide +kernel
theorem dX9_existingDueEntry_39 : decode cX9_existingDueEntry 39 = .ok (.getfield 320, 3) := by decide +kernel
theorem dX9_existingDueEntry_42 : decode cX9_existingDueEntry 42 = .ok (.ireturn, 1) := by decide +kernel
theorem dX9_signOfDay_0 : decode cX9_signOfDay 0 = .ok (.iload_n 1, 1) := by decide +kernel
theorem dX9_signOfDay_1 : decode cX9_signOfDay 1 = .ok (.aload_n 0, 1) := by decide +kernel
theorem dX9_signOfDay_2 : decode cX9_signOfDay 2 = .ok (.getfield 12, 3) := by decide +kernel
theorem dX9_signOfDay_5 : decode cX9_signOfDay 5 = .ok (.getfield 69, 3) := by decide +kernel
theorem dX9_signOfDay_8 : decode cX9_signOfDay 8 = .ok (.if_icmp .le 6, 3) := by decide +kernel
theorem dX9_signOfDay_11 : decode cX9_signOfDay 11 = .ok (.bipush 45, 2) := by decide +kernel
theorem dX9_signOfDay_13 : decode cX9_signOfDay 13 = .ok (.ireturn, 1) := by decide +kernel
theorem dX9_signOfDay_14 : decode cX9_signOfDay 14 = .ok (.aload_n 0, 1) := by decide +kernel
theorem dX9_signOfDay_15 : decode cX9_signOfDay 15 = .ok (.getfield 12, 3) := by decide +kernel
theorem dX9_signOfDay_18 : decode cX9_signOfDay 18 = .ok (.getfield 156, 3) := by decide +kernel
theorem dX9_signOfDay_21 : decode cX9_signOfDay 21 = .ok (.iload_n 1, 1) := by decide +kernel
theorem dX9_signOfDay_22 : decode cX9_signOfDay 22 = .ok (.invokevirtual 373, 3) := by decide +kernel
theorem dX9_signOfDay_25 : decode cX9_signOfDay 25 = .ok (.ifCond .ne 6, 3) := by decide +kernel
theorem dX9_signOfDay_28 : decode cX9_signOfDay 28 = .ok (.bipush 46, 2) := by decide +kernel
theorem dX9_signOfDay_30 : decode cX9_signOfDay 30 = .ok (.ireturn, 1) := by decide +kernel
theorem dX9_signOfDay_31 : decode cX9_signOfDay 31 = .ok (.aload_n 0, 1) := by decide +kernel
theorem dX9_signOfDay_32 : decode cX9_signOfDay 32 = .ok (.getfield 59, 3) := by decide +kernel
theorem dX9_signOfDay_35 : decode cX9_signOfDay 35 = .ok (.invokestatic 212, 3) := by decide +kernel
theorem dX9_signOfDay_38 : decode cX9_signOfDay 38 = .ok (.iconst 0, 1) := by decide +kernel
theorem dX9_signOfDay_39 : decode cX9_signOfDay 39 = .ok (.istore_n 2, 1) := by decide +kernel
theorem dX9_signOfDay_40 : decode cX9_signOfDay 40 = .ok (.iload_n 2, 1) := by decide +kernel
theorem dX9_signOfDay_41 : decode cX9_signOfDay 41 = .ok (.aload_n 0, 1) := by decide +kernel
theorem dX9_signOfDay_42 : decode cX9_signOfDay 42 = .ok (.getfield 12, 3) := by decide +kernel
theorem dX9_signOfDay_45 : decode cX9_signOfDay 45 = .ok (.getfield 156, 3) := by decide +kernel
theorem dX9_signOfDay_48 : decode cX9_signOfDay 48 = .ok (.getfield 160, 3) := by decide +kernel
theorem dX9_signOfDay_51 : decode cX9_signOfDay 51 = .ok (.if_icmp .ge 42, 3) := by decide +kernel
theorem dX9_signOfDay_54 : decode cX9_signOfDay 54 = .ok (.aload_n 0, 1) := by decide +kernel
theorem dX9_signOfDay_55 : decode cX9_signOfDay 55 = .ok (.getfield 12, 3) := by decide +kernel
theorem dX9_signOfDay_58 : decode cX9_signOfDay 58 = .ok (.getfield 156, 3) := by decide +kernel
theorem dX9_signOfDay_61 : decode cX9_signOfDay 61 = .ok (.getfield 205, 3) := by decide +kernel
theorem dX9_signOfDay_64 : decode cX9_signOfDay 64 = .ok (.iload_n 2, 1) := by decide +kernel
theorem dX9_signOfDay_65 : decode cX9_signOfDay 65 = .ok (.aaload, 1) := by decide +kernel
theorem dX9_signOfDay_66 : decode cX9_signOfDay 66 = .ok (.astore_n 3, 1) := by decide +kernel
theorem dX9_signOfDay_67 : decode cX9_signOfDay 67 = .ok (.aload_n 3, 1) := by decide +kernel
theorem dX9_signOfDay_68 : decode cX9_signOfDay 68 = .ok (.getfield 184, 3) := by decide +kernel
theorem dX9_signOfDay_71 : decode cX9_signOfDay 71 = .ok (.iload_n 1, 1) := by decide +kernel
theorem dX9_signOfDay_72 : decode cX9_signOfDay 72 = .ok (.if_icmp .ne 15, 3) := by decide +kernel
theorem dX9_signOfDay_75 : decode cX9_signOfDay 75 = .ok (.aload_n 0, 1) := by decide +kernel
theorem dX9_signOfDay_76 : decode cX9_signOfDay 76 = .ok (.getfield 12, 3) := by decide +kernel
theorem dX9_signOfDay_79 : decode cX9_signOfDay 79 = .ok (.aload_n 3, 1) := by decide +kernel
theorem dX9_signOfDay_80 : decode cX9_signOfDay 80 = .ok (.aload_n 0, 1) := by decide +kernel
theorem dX9_signOfDay_81 : decode cX9_signOfDay 81 = .ok (.getfield 59, 3) := by decide +kernel
theorem dX9_signOfDay_84 : decode cX9_signOfDay 84 = .ok (.invokevirtual 215, 3) := by decide +kernel
theorem dX9_signOfDay_87 : decode cX9_signOfDay 87 = .ok (.iinc 2 1, 3) := by decide +kernel
theorem dX9_signOfDay_90 : decode cX9_signOfDay 90 = .ok (.goto (-50), 3) := by decide +kernel
theorem dX9_signOfDay_93 : decode cX9_signOfDay 93 = .ok (.iconst 0, 1) := by decide +kernel
theorem dX9_signOfDay_94 : decode cX9_signOfDay 94 = .ok (.istore_n 2, 1) := by decide +kernel
theorem dX9_signOfDay_95 : decode cX9_signOfDay 95 = .ok (.iconst 1, 1) := by decide +kernel
theorem dX9_signOfDay_96 : decode cX9_signOfDay 96 = .ok (.istore_n 3, 1) := by decide +kernel
theorem dX9_signOfDay_97 : decode cX9_signOfDay 97 = .ok (.iload_n 3, 1) := by decide +kernel
theorem dX9_signOfDay_98 : decode cX9_signOfDay 98 = .ok (.iconst 5, 1) := by decide +kernel
theorem dX9_signOfDay_99 : decode cX9_signOfDay 99 = .ok (.if_icmp .gt 26, 3) := by decide +kernel
theorem dX9_signOfDay_102 : decode cX9_signOfDay 102 = .ok (.aload_n 0, 1) := by decide +kernel
theorem dX9_signOfDay_103 : decode cX9_signOfDay 103 = .ok (.getfield 59, 3) := by decide +kernel
theorem dX9_signOfDay_106 : decode cX9_signOfDay 106 = .ok (.iload_n 3, 1) := by decide +kernel
theorem dX9_signOfDay_107 : decode cX9_signOfDay 107 = .ok (.iaload, 1) := by decide +kernel
theorem dX9_signOfDay_108 : decode cX9_signOfDay 108 = .ok (.aload_n 0, 1) := by decide +kernel
theorem dX9_signOfDay_109 : decode cX9_signOfDay 109 = .ok (.getfield 59, 3) := by decide +kernel
theorem dX9_signOfDay_112 : decode cX9_signOfDay 112 = .ok (.iload_n 2, 1) := by decide +kernel
theorem dX9_signOfDay_113 : decode cX9_signOfDay 113 = .ok (.iaload, 1) := by decide +kernel
theorem dX9_signOfDay_114 : decode cX9_signOfDay 114 = .ok (.if_icmp .le 5, 3) := by decide +kernel
theorem dX9_signOfDay_117 : decode cX9_signOfDay 117 = .ok (.iload_n 3, 1) := by decide +kernel
theorem dX9_signOfDay_118 : decode cX9_signOfDay 118 = .ok (.istore_n 2, 1) := by decide +kernel
theorem dX9_signOfDay_119 : decode cX9_signOfDay 119 = .ok (.iinc 3 1, 3) := by decide +kernel
theorem dX9_signOfDay_122 : decode cX9_signOfDay 122 = .ok (.goto (-25), 3) := by decide +kernel
theorem dX9_signOfDay_125 : decode cX9_signOfDay 125 = .ok (.bipush 48, 2) := by decide +kernel
theorem dX9_signOfDay_127 : decode cX9_signOfDay 127 = .ok (.iload_n 2, 1) := by decide +kernel
theorem dX9_signOfDay_128 : decode cX9_signOfDay 128 = .ok (.iadd, 1) := by decide +kernel
theorem dX9_signOfDay_129 : decode cX9_signOfDay 129 = .ok (.i2c, 1) := by decide +kernel
theorem dX9_signOfDay_130 : decode cX9_signOfDay 130 = .ok (.ireturn, 1) := by decide +kernel
theorem dJx00060_init_a7421_0 : decode cJx00060_init_a7421 0 = .ok (.aload_n 0, 1) := by decide +kernel
theorem dJx00060_init_a7421_1 : decode cJx00060_init_a7421 1 = .ok (.aload_n 1, 1) := by decide +kernel
theorem dJx00060_init_a7421_2 : decode cJx00060_init_a7421 2 = .ok (.invokespecial 7, 3) := by decide +kernel
theorem dJx00060_init_a7421_5 : decode cJx00060_init_a7421 5 = .ok (.return_, 1) := by decide +kernel
theorem dJ9_max_7cf53_0 : decode cJ9_max_7cf53 0 = .ok (.iload_n 0, 1) := by decide +kernel
theorem dJ9_max_7cf53_1 : decode cJ9_max_7cf53 1 = .ok (.iload_n 1, 1) := by decide +kernel
theorem dJ9_max_7cf53_2 : decode cJ9_max_7cf53 2 = .ok (.if_icmp .lt 7, 3) := by decide +kernel
theorem dJ9_max_7cf53_5 : decode cJ9_max_7cf53 5 = .ok (.iload_n 0, 1) := by decide +kernel
theorem dJ9_max_7cf53_6 : decode cJ9_max_7cf53 6 = .ok (.goto 4, 3) := by decide +kernel
theorem dJ9_max_7cf53_9 : decode cJ9_max_7cf53 9 = .ok (.iload_n 1, 1) := by decide +kernel
theorem dJ9_max_7cf53_10 : decode cJ9_max_7cf53 10 = .ok (.ireturn, 1) := by decide +kernel
theorem dJ9_min_7cf53_0 : decode cJ9_min_7cf53 0 = .ok (.iload_n 0, 1) := by decide +kernel
theorem dJ9_min_7cf53_1 : decode cJ9_min_7cf53 1 = .ok (.iload_n 1, 1) := by decide +kernel
theorem dJ9_min_7cf53_2 : decode cJ9_min_7cf53 2 = .ok (.if_icmp .gt 7, 3) := by decide +kernel
theorem dJ9_min_7cf53_5 : decode cJ9_min_7cf53 5 = .ok (.iload_n 0, 1) := by decide +kernel
theorem dJ9_min_7cf53_6 : decode cJ9_min_7cf53 6 = .ok (.goto 4, 3) := by decide +kernel
theorem dJ9_min_7cf53_9 : decode cJ9_min_7cf53 9 = .ok (.iload_n 1, 1) := by decide +kernel
theorem dJ9_min_7cf53_10 : decode cJ9_min_7cf53 10 = .ok (.ireturn, 1) := by decide +kernel
theorem dL_cell_0 : decode cL_cell 0 = .ok (.ldc 7, 2) := by decide +kernel
theorem dL_cell_2 : decode cL_cell 2 = .ok (.iload_n 1, 1) := by decide +kernel
theorem dL_cell_3 : decode cL_cell 3 = .ok (.aload_n 0, 1) := by decide +kernel
theorem dL_cell_4 : decode cL_cell 4 = .ok (.arraylength, 1) := by decide +kernel
theorem dL_cell_5 : decode cL_cell 5 = .ok (.if_icmp .ge 9, 3) := by decide +kernel
theorem dL_cell_8 : decode cL_cell 8 = .ok (.aload_n 0, 1) := by decide +kernel
theorem dL_cell_9 : decode cL_cell 9 = .ok (.iload_n 1, 1) := by decide +kernel
theorem dL_cell_10 : decode cL_cell 10 = .ok (.iaload, 1) := by decide +kernel
theorem dL_cell_11 : decode cL_cell 11 = .ok (.goto 4, 3) := by decide +kernel
theorem dL_cell_14 : decode cL_cell 14 = .ok (.iconst 0, 1) := by decide +kernel
theorem dL_cell_15 : decode cL_cell 15 = .ok (.sipush 1009, 3) := by decide +kernel
theorem dL_cell_18 : decode cL_cell 18 = .ok (.iload_n 1, 1) := by decide +kernel
theorem dL_cell_19 : decode cL_cell 19 = .ok (.imul, 1) := by decide +kernel
theorem dL_cell_20 : decode cL_cell 20 = .ok (.iadd, 1) := by decide +kernel
theorem dL_cell_21 : decode cL_cell 21 = .ok (.imul, 1) := by decide +kernel
theorem dL_cell_22 : decode cL_cell 22 = .ok (.sipush 12345, 3) := by decide +kernel
theorem dL_cell_25 : decode cL_cell 25 = .ok (.iadd, 1) := by decide +kernel
theorem dL_cell_26 : decode cL_cell 26 = .ok (.istore_n 2, 1) := by decide +kernel
theorem dL_cell_27 : decode cL_cell 27 = .ok (.iload_n 2, 1) := by decide +kernel
theorem dL_cell_28 : decode cL_cell 28 = .ok (.iload_n 2, 1) := by decide +kernel
theorem dL_cell_29 : decode cL_cell 29 = .ok (.bipush 13, 2) := by decide +kernel
theorem dL_cell_31 : decode cL_cell 31 = .ok (.iushr, 1) := by decide +kernel
theorem dL_cell_32 : decode cL_cell 32 = .ok (.ixor, 1) := by decide +kernel
theorem dL_cell_33 : decode cL_cell 33 = .ok (.ldc 8, 2) := by decide +kernel
theorem dL_cell_35 : decode cL_cell 35 = .ok (.imul, 1) := by decide +kernel
theorem dL_cell_36 : decode cL_cell 36 = .ok (.istore_n 2, 1) := by decide +kernel
theorem dL_cell_37 : decode cL_cell 37 = .ok (.iload_n 2, 1) := by decide +kernel
theorem dL_cell_38 : decode cL_cell 38 = .ok (.iload_n 2, 1) := by decide +kernel
theorem dL_cell_39 : decode cL_cell 39 = .ok (.bipush 16, 2) := by decide +kernel
theorem dL_cell_41 : decode cL_cell 41 = .ok (.iushr, 1) := by decide +kernel
theorem dL_cell_42 : decode cL_cell 42 = .ok (.ixor, 1) := by decide +kernel
theorem dL_cell_43 : decode cL_cell 43 = .ok (.ireturn, 1) := by decide +kernel
theorem dL_pass_0 : decode cL_pass 0 = .ok (.aload_n 0, 1) := by decide +kernel
theorem dL_pass_1 : decode cL_pass 1 = .ok (.iload_n 1, 1) := by decide +kernel
theorem dL_pass_2 : decode cL_pass 2 = .ok (.invokevirtual 9, 3) := by decide +kernel
theorem dL_pass_5 : decode cL_pass 5 = .ok (.ireturn, 1) := by decide +kernel
theorem dL_pass_6 : decode cL_pass 6 = .ok (.astore_n 2, 1) := by decide +kernel
theorem dL_pass_7 : decode cL_pass 7 = .ok (.ldc 17, 2) := by decide +kernel
theorem dL_pass_9 : decode cL_pass 9 = .ok (.ireturn, 1) := by decide +kernel
theorem dL_pass_10 : decode cL_pass 10 = .ok (.astore_n 2, 1) := by decide +kernel
theorem dL_pass_11 : decode cL_pass 11 = .ok (.ldc 20, 2) := by decide +kernel
theorem dL_pass_13 : decode cL_pass 13 = .ok (.ireturn, 1) := by decide +kernel
theorem dL_addTest_0 : decode cL_addTest 0 = .ok (.aload_n 0, 1) := by decide +kernel
theorem dL_addTest_1 : decode cL_addTest 1 = .ok (.iload_n 1, 1) := by decide +kernel
theorem dL_addTest_2 : decode cL_addTest 2 = .ok (.iload_n 2, 1) := by decide +kernel
theorem dL_addTest_3 : decode cL_addTest 3 = .ok (.invokevirtual 21, 3) := by decide +kernel
theorem dL_addTest_6 : decode cL_addTest 6 = .ok (.ireturn, 1) := by decide +kernel
theorem dL_addTest_7 : decode cL_addTest 7 = .ok (.astore_n 3, 1) := by decide +kernel
theorem dL_addTest_8 : decode cL_addTest 8 = .ok (.ldc 17, 2) := by decide +kernel
theorem dL_addTest_10 : decode cL_addTest 10 = .ok (.ireturn, 1) := by decide +kernel
theorem dL_addTest_11 : decode cL_addTest 11 = .ok (.astore_n 3, 1) := by decide +kernel
theorem dL_addTest_12 : decode cL_addTest 12 = .ok (.ldc 20, 2) := by decide +kernel
theorem dL_addTest_14 : decode cL_addTest 14 = .ok (.ireturn, 1) := by decide +kernel
theorem dL_removeTest_0 : decode cL_removeTest 0 = .ok (.aload_n 0, 1) := by decide +kernel
theorem dL_removeTest_1 : decode cL_removeTest 1 = .ok (.iload_n 1, 1) := by decide +kernel
theorem dL_removeTest_2 : decode cL_removeTest 2 = .ok (.invokevirtual 25, 3) := by decide +kernel
theorem dL_removeTest_5 : decode cL_removeTest 5 = .ok (.ireturn, 1) := by decide +kernel
theorem dL_removeTest_6 : decode cL_removeTest 6 = .ok (.astore_n 2, 1) := by decide +kernel
theorem dL_removeTest_7 : decode cL_removeTest 7 = .ok (.ldc 17, 2) := by decide +kernel
theorem dL_removeTest_9 : decode cL_removeTest 9 = .ok (.ireturn, 1) := by decide +kernel
theorem dL_thresholdOn_0 : decode cL_thresholdOn 0 = .ok (.aload_n 0, 1) := by decide +kernel
theorem dL_thresholdOn_1 : decode cL_thresholdOn 1 = .ok (.iload_n 1, 1) := by decide +kernel
theorem dL_thresholdOn_2 : decode cL_thresholdOn 2 = .ok (.invokevirtual 30, 3) := by decide +kernel
theorem dL_thresholdOn_5 : decode cL_thresholdOn 5 = .ok (.ireturn, 1) := by decide +kernel
theorem dL_thresholdOn_6 : decode cL_thresholdOn 6 = .ok (.astore_n 2, 1) := by decide +kernel
theorem dL_thresholdOn_7 : decode cL_thresholdOn 7 = .ok (.ldc 17, 2) := by decide +kernel
theorem dL_thresholdOn_9 : decode cL_thresholdOn 9 = .ok (.ireturn, 1) := by decide +kernel
theorem dL_setBound_0 : decode cL_setBound 0 = .ok (.aload_n 0, 1) := by decide +kernel
theorem dL_setBound_1 : decode cL_setBound 1 = .ok (.iload_n 1, 1) := by decide +kernel
theorem dL_setBound_2 : decode cL_setBound 2 = .ok (.iload_n 2, 1) := by decide +kernel
theorem dL_setBound_3 : decode cL_setBound 3 = .ok (.invokevirtual 33, 3) := by decide +kernel
theorem dL_setBound_6 : decode cL_setBound 6 = .ok (.ireturn, 1) := by decide +kernel
theorem dL_setBound_7 : decode cL_setBound 7 = .ok (.astore_n 3, 1) := by decide +kernel
theorem dL_setBound_8 : decode cL_setBound 8 = .ok (.ldc 17, 2) := by decide +kernel
theorem dL_setBound_10 : decode cL_setBound 10 = .ok (.ireturn, 1) := by decide +kernel
theorem dL_setBound_11 : decode cL_setBound 11 = .ok (.astore_n 3, 1) := by decide +kernel
theorem dL_setBound_12 : decode cL_setBound 12 = .ok (.ldc 20, 2) := by decide +kernel
theorem dL_setBound_14 : decode cL_setBound 14 = .ok (.ireturn, 1) := by decide +kernel
theorem dL_boundOf_0 : decode cL_boundOf 0 = .ok (.aload_n 0, 1) := by decide +kernel
theorem dL_boundOf_1 : decode cL_boundOf 1 = .ok (.iload_n 1, 1) := by decide +kernel
theorem dL_boundOf_2 : decode cL_boundOf 2 = .ok (.invokevirtual 36, 3) := by decide +kernel
theorem dL_boundOf_5 : decode cL_boundOf 5 = .ok (.ireturn, 1) := by decide +kernel
theorem dL_boundOf_6 : decode cL_boundOf 6 = .ok (.astore_n 2, 1) := by decide +kernel
theorem dL_boundOf_7 : decode cL_boundOf 7 = .ok (.ldc 17, 2) := by decide +kernel
theorem dL_boundOf_9 : decode cL_boundOf 9 = .ok (.ireturn, 1) := by decide +kernel
theorem dL_setWeight_0 : decode cL_setWeight 0 = .ok (.aload_n 0, 1) := by decide +kernel
theorem dL_setWeight_1 : decode cL_setWeight 1 = .ok (.iload_n 1, 1) := by decide +kernel
theorem dL_setWeight_2 : decode cL_setWeight 2 = .ok (.iload_n 2, 1) := by decide +kernel
theorem dL_setWeight_3 : decode cL_setWeight 3 = .ok (.invokevirtual 39, 3) := by decide +kernel
theorem dL_setWeight_6 : decode cL_setWeight 6 = .ok (.ireturn, 1) := by decide +kernel
theorem dL_setWeight_7 : decode cL_setWeight 7 = .ok (.astore_n 3, 1) := by decide +kernel
theorem dL_setWeight_8 : decode cL_setWeight 8 = .ok (.ldc 17, 2) := by decide +kernel
theorem dL_setWeight_10 : decode cL_setWeight 10 = .ok (.ireturn, 1) := by decide +kernel
theorem dL_weightOf_0 : decode cL_weightOf 0 = .ok (.aload_n 0, 1) := by decide +kernel
theorem dL_weightOf_1 : decode cL_weightOf 1 = .ok (.iload_n 1, 1) := by decide +kernel
theorem dL_weightOf_2 : decode cL_weightOf 2 = .ok (.invokevirtual 42, 3) := by decide +kernel
theorem dL_weightOf_5 : decode cL_weightOf 5 = .ok (.ireturn, 1) := by decide +kernel
theorem dL_weightOf_6 : decode cL_weightOf 6 = .ok (.astore_n 2, 1) := by decide +kernel
theorem dL_weightOf_7 : decode cL_weightOf 7 = .ok (.ldc 17, 2) := by decide +kernel
theorem dL_weightOf_9 : decode cL_weightOf 9 = .ok (.ireturn, 1) := by decide +kernel
theorem dL_zoneOf_0 : decode cL_zoneOf 0 = .ok (.aload_n 0, 1) := by decide +kernel
theorem dL_zoneOf_1 : decode cL_zoneOf 1 = .ok (.iload_n 1, 1) := by decide +kernel
theorem dL_zoneOf_2 : decode cL_zoneOf 2 = .ok (.iload_n 2, 1) := by decide +kernel
theorem dL_zoneOf_3 : decode cL_zoneOf 3 = .ok (.invokevirtual 45, 3) := by decide +kernel
theorem dL_zoneOf_6 : decode cL_zoneOf 6 = .ok (.ireturn, 1) := by decide +kernel
theorem dL_zoneOf_7 : decode cL_zoneOf 7 = .ok (.astore_n 3, 1) := by decide +kernel
theorem dL_zoneOf_8 : decode cL_zoneOf 8 = .ok (.ldc 17, 2) := by decide +kernel
theorem dL_zoneOf_10 : decode cL_zoneOf 10 = .ok (.ireturn, 1) := by decide +kernel
theorem dL_addSession_0 : decode cL_addSession 0 = .ok (.aload_n 0, 1) := by decide +kernel
theorem dL_addSession_1 : decode cL_addSession 1 = .ok (.iload_n 1, 1) := by decide +kernel
theorem dL_addSession_2 : decode cL_addSession 2 = .ok (.invokevirtual 48, 3) := by decide +kernel
theorem dL_addSession_5 : decode cL_addSession 5 = .ok (.ireturn, 1) := by decide +kernel
theorem dL_addSession_6 : decode cL_addSession 6 = .ok (.astore_n 2, 1) := by decide +kernel
theorem dL_addSession_7 : decode cL_addSession 7 = .ok (.ldc 17, 2) := by decide +kernel
theorem dL_addSession_9 : decode cL_addSession 9 = .ok (.ireturn, 1) := by decide +kernel
theorem dL_addSession_10 : decode cL_addSession 10 = .ok (.astore_n 2, 1) := by decide +kernel
theorem dL_addSession_11 : decode cL_addSession 11 = .ok (.ldc 20, 2) := by decide +kernel
theorem dL_addSession_13 : decode cL_addSession 13 = .ok (.ireturn, 1) := by decide +kernel
theorem dL_addPart_0 : decode cL_addPart 0 = .ok (.aload_n 0, 1) := by decide +kernel
theorem dL_addPart_1 : decode cL_addPart 1 = .ok (.iload_n 1, 1) := by decide +kernel
theorem dL_addPart_2 : decode cL_addPart 2 = .ok (.iload_n 2, 1) := by decide +kernel
theorem dL_addPart_3 : decode cL_addPart 3 = .ok (.iload_n 3, 1) := by decide +kernel
theorem dL_addPart_4 : decode cL_addPart 4 = .ok (.invokevirtual 51, 3) := by decide +kernel
theorem dL_addPart_7 : decode cL_addPart 7 = .ok (.ireturn, 1) := by decide +kernel
theorem dL_addPart_8 : decode cL_addPart 8 = .ok (.astore 4, 2) := by decide +kernel
theorem dL_addPart_10 : decode cL_addPart 10 = .ok (.ldc 17, 2) := by decide +kernel
theorem dL_addPart_12 : decode cL_addPart 12 = .ok (.ireturn, 1) := by decide +kernel
theorem dL_addPart_13 : decode cL_addPart 13 = .ok (.astore 4, 2) := by decide +kernel
theorem dL_addPart_15 : decode cL_addPart 15 = .ok (.ldc 20, 2) := by decide +kernel
theorem dL_addPart_17 : decode cL_addPart 17 = .ok (.ireturn, 1) := by decide +kernel
theorem dL_addPart_18 : decode cL_addPart 18 = .ok (.astore 4, 2) := by decide +kernel
theorem dL_addPart_20 : decode cL_addPart 20 = .ok (.ldc 55, 2) := by decide +kernel
theorem dL_addPart_22 : decode cL_addPart 22 = .ok (.ireturn, 1) := by decide +kernel
theorem dL_clearParts_0 : decode cL_clearParts 0 = .ok (.aload_n 0, 1) := by decide +kernel
theorem dL_clearParts_1 : decode cL_clearParts 1 = .ok (.iload_n 1, 1) := by decide +kernel
theorem dL_clearParts_2 : decode cL_clearParts 2 = .ok (.invokevirtual 56, 3) := by decide +kernel
theorem dL_clearParts_5 : decode cL_clearParts 5 = .ok (.ireturn, 1) := by decide +kernel
theorem dL_clearParts_6 : decode cL_clearParts 6 = .ok (.astore_n 2, 1) := by decide +kernel
theorem dL_clearParts_7 : decode cL_clearParts 7 = .ok (.ldc 17, 2) := by decide +kernel
theorem dL_clearParts_9 : decode cL_clearParts 9 = .ok (.ireturn, 1) := by decide +kernel
theorem dL_moveSession_0 : decode cL_moveSession 0 = .ok (.aload_n 0, 1) := by decide +kernel
theorem dL_moveSession_1 : decode cL_moveSession 1 = .ok (.iload_n 1, 1) := by decide +kernel
theorem dL_moveSession_2 : decode cL_moveSession 2 = .ok (.iload_n 2, 1) := by decide +kernel
theorem dL_moveSession_3 : decode cL_moveSession 3 = .ok (.invokevirtual 59, 3) := by decide +kernel
theorem dL_moveSession_6 : decode cL_moveSession 6 = .ok (.ireturn, 1) := by decide +kernel
theorem dL_moveSession_7 : decode cL_moveSession 7 = .ok (.astore_n 3, 1) := by decide +kernel
theorem dL_moveSession_8 : decode cL_moveSession 8 = .ok (.ldc 17, 2) := by decide +kernel
theorem dL_moveSession_10 : decode cL_moveSession 10 = .ok (.ireturn, 1) := by decide +kernel
theorem dL_moveSession_11 : decode cL_moveSession 11 = .ok (.astore_n 3, 1) := by decide +kernel
theorem dL_moveSession_12 : decode cL_moveSession 12 = .ok (.ldc 20, 2) := by decide +kernel
theorem dL_moveSession_14 : decode cL_moveSession 14 = .ok (.ireturn, 1) := by decide +kernel
theorem dL_removeSession_0 : decode cL_removeSession 0 = .ok (.aload_n 0, 1) := by decide +kernel
theorem dL_removeSession_1 : decode cL_removeSession 1 = .ok (.iload_n 1, 1) := by decide +kernel
theorem dL_removeSession_2 : decode cL_removeSession 2 = .ok (.invokevirtual 62, 3) := by decide +kernel
theorem dL_removeSession_5 : decode cL_removeSession 5 = .ok (.ireturn, 1) := by decide +kernel
theorem dL_removeSession_6 : decode cL_removeSession 6 = .ok (.astore_n 2, 1) := by decide +kernel
theorem dL_removeSession_7 : decode cL_removeSession 7 = .ok (.ldc 17, 2) := by decide +kernel
theorem dL_removeSession_9 : decode cL_removeSession 9 = .ok (.ireturn, 1) := by decide +kernel
theorem dL_sessionAt_0 : decode cL_sessionAt 0 = .ok (.aload_n 0, 1) := by decide +kernel
theorem dL_sessionAt_1 : decode cL_sessionAt 1 = .ok (.iload_n 1, 1) := by decide +kernel
theorem dL_sessionAt_2 : decode cL_sessionAt 2 = .ok (.invokevirtual 65, 3) := by decide +kernel
theorem dL_sessionAt_5 : decode cL_sessionAt 5 = .ok (.ireturn, 1) := by decide +kernel
theorem dL_sessionAt_6 : decode cL_sessionAt 6 = .ok (.astore_n 2, 1) := by decide +kernel
theorem dL_sessionAt_7 : decode cL_sessionAt 7 = .ok (.ldc 17, 2) := by decide +kernel
theorem dL_sessionAt_9 : decode cL_sessionAt 9 = .ok (.ireturn, 1) := by decide +kernel
theorem dL_dayOf_0 : decode cL_dayOf 0 = .ok (.aload_n 0, 1) := by decide +kernel
theorem dL_dayOf_1 : decode cL_dayOf 1 = .ok (.iload_n 1, 1) := by decide +kernel
theorem dL_dayOf_2 : decode cL_dayOf 2 = .ok (.invokevirtual 70, 3) := by decide +kernel
theorem dL_dayOf_5 : decode cL_dayOf 5 = .ok (.ireturn, 1) := by decide +kernel
theorem dL_dayOf_6 : decode cL_dayOf 6 = .ok (.astore_n 2, 1) := by decide +kernel
theorem dL_dayOf_7 : decode cL_dayOf 7 = .ok (.ldc 17, 2) := by decide +kernel
theorem dL_dayOf_9 : decode cL_dayOf 9 = .ok (.ireturn, 1) := by decide +kernel
theorem dL_minutesOf_0 : decode cL_minutesOf 0 = .ok (.aload_n 0, 1) := by decide +kernel
theorem dL_minutesOf_1 : decode cL_minutesOf 1 = .ok (.iload_n 1, 1) := by decide +kernel
theorem dL_minutesOf_2 : decode cL_minutesOf 2 = .ok (.invokevirtual 73, 3) := by decide +kernel
theorem dL_minutesOf_5 : decode cL_minutesOf 5 = .ok (.ireturn, 1) := by decide +kernel
theorem dL_minutesOf_6 : decode cL_minutesOf 6 = .ok (.astore_n 2, 1) := by decide +kernel
theorem dL_minutesOf_7 : decode cL_minutesOf 7 = .ok (.ldc 17, 2) := by decide +kernel
theorem dL_minutesOf_9 : decode cL_minutesOf 9 = .ok (.ireturn, 1) := by decide +kernel
theorem dL_minutesInZone_0 : decode cL_minutesInZone 0 = .ok (.aload_n 0, 1) := by decide +kernel
theorem dL_minutesInZone_1 : decode cL_minutesInZone 1 = .ok (.iload_n 1, 1) := by decide +kernel
theorem dL_minutesInZone_2 : decode cL_minutesInZone 2 = .ok (.iload_n 2, 1) := by decide +kernel
theorem dL_minutesInZone_3 : decode cL_minutesInZone 3 = .ok (.invokevirtual 76, 3) := by decide +kernel
theorem dL_minutesInZone_6 : decode cL_minutesInZone 6 = .ok (.ireturn, 1) := by decide +kernel
theorem dL_minutesInZone_7 : decode cL_minutesInZone 7 = .ok (.astore_n 3, 1) := by decide +kernel
theorem dL_minutesInZone_8 : decode cL_minutesInZone 8 = .ok (.ldc 17, 2) := by decide +kernel
theorem dL_minutesInZone_10 : decode cL_minutesInZone 10 = .ok (.ireturn, 1) := by decide +kernel
theorem dL_minutesInZone_11 : decode cL_minutesInZone 11 = .ok (.astore_n 3, 1) := by decide +kernel
theorem dL_minutesInZone_12 : decode cL_minutesInZone 12 = .ok (.ldc 20, 2) := by decide +kernel
theorem dL_minutesInZone_14 : decode cL_minutesInZone 14 = .ok (.ireturn, 1) := by decide +kernel
theorem dL_loadOf_0 : decode cL_loadOf 0 = .ok (.aload_n 0, 1) := by decide +kernel
theorem dL_loadOf_1 : decode cL_loadOf 1 = .ok (.iload_n 1, 1) := by decide +kernel
theorem dL_loadOf_2 : decode cL_loadOf 2 = .ok (.invokevirtual 79, 3) := by decide +kernel
theorem dL_loadOf_5 : decode cL_loadOf 5 = .ok (.ireturn, 1) := by decide +kernel
theorem dL_loadOf_6 : decode cL_loadOf 6 = .ok (.astore_n 2, 1) := by decide +kernel
theorem dL_loadOf_7 : decode cL_loadOf 7 = .ok (.ldc 17, 2) := by decide +kernel
theorem dL_loadOf_9 : decode cL_loadOf 9 = .ok (.ireturn, 1) := by decide +kernel
theorem dL_loadOn_0 : decode cL_loadOn 0 = .ok (.aload_n 0, 1) := by decide +kernel
theorem dL_loadOn_1 : decode cL_loadOn 1 = .ok (.iload_n 1, 1) := by decide +kernel
theorem dL_loadOn_2 : decode cL_loadOn 2 = .ok (.invokevirtual 82, 3) := by decide +kernel
theorem dL_loadOn_5 : decode cL_loadOn 5 = .ok (.ireturn, 1) := by decide +kernel
theorem dL_loadOn_6 : decode cL_loadOn 6 = .ok (.astore_n 2, 1) := by decide +kernel
theorem dL_loadOn_7 : decode cL_loadOn 7 = .ok (.ldc 17, 2) := by decide +kernel
theorem dL_loadOn_9 : decode cL_loadOn 9 = .ok (.ireturn, 1) := by decide +kernel
theorem dL_zoneShare_0 : decode cL_zoneShare 0 = .ok (.aload_n 0, 1) := by decide +kernel
theorem dL_zoneShare_1 : decode cL_zoneShare 1 = .ok (.iload_n 1, 1) := by decide +kernel
theorem dL_zoneShare_2 : decode cL_zoneShare 2 = .ok (.invokevirtual 85, 3) := by decide +kernel
theorem dL_zoneShare_5 : decode cL_zoneShare 5 = .ok (.freturn, 1) := by decide +kernel
theorem dL_zoneShare_6 : decode cL_zoneShare 6 = .ok (.astore_n 2, 1) := by decide +kernel
theorem dL_zoneShare_7 : decode cL_zoneShare 7 = .ok (.ldc 89, 2) := by decide +kernel
theorem dL_zoneShare_9 : decode cL_zoneShare 9 = .ok (.freturn, 1) := by decide +kernel
theorem dL_zoneShare_10 : decode cL_zoneShare 10 = .ok (.astore_n 2, 1) := by decide +kernel
theorem dL_zoneShare_11 : decode cL_zoneShare 11 = .ok (.ldc 92, 2) := by decide +kernel
theorem dL_zoneShare_13 : decode cL_zoneShare 13 = .ok (.freturn, 1) := by decide +kernel
theorem dL_addTarget_0 : decode cL_addTarget 0 = .ok (.aload_n 0, 1) := by decide +kernel
theorem dL_addTarget_1 : decode cL_addTarget 1 = .ok (.iload_n 1, 1) := by decide +kernel
theorem dL_addTarget_2 : decode cL_addTarget 2 = .ok (.invokevirtual 93, 3) := by decide +kernel
theorem dL_addTarget_5 : decode cL_addTarget 5 = .ok (.ireturn, 1) := by decide +kernel
theorem dL_addTarget_6 : decode cL_addTarget 6 = .ok (.astore_n 2, 1) := by decide +kernel
theorem dL_addTarget_7 : decode cL_addTarget 7 = .ok (.ldc 17, 2) := by decide +kernel
theorem dL_addTarget_9 : decode cL_addTarget 9 = .ok (.ireturn, 1) := by decide +kernel
theorem dL_addTarget_10 : decode cL_addTarget 10 = .ok (.astore_n 2, 1) := by decide +kernel
theorem dL_addTarget_11 : decode cL_addTarget 11 = .ok (.ldc 20, 2) := by decide +kernel
theorem dL_addTarget_13 : decode cL_addTarget 13 = .ok (.ireturn, 1) := by decide +kernel
theorem dL_targetAt_0 : decode cL_targetAt 0 = .ok (.aload_n 0, 1) := by decide +kernel
theorem dL_targetAt_1 : decode cL_targetAt 1 = .ok (.iload_n 1, 1) := by decide +kernel
theorem dL_targetAt_2 : decode cL_targetAt 2 = .ok (.invokevirtual 96, 3) := by decide +kernel
theorem dL_targetAt_5 : decode cL_targetAt 5 = .ok (.ireturn, 1) := by decide +kernel
theorem dL_targetAt_6 : decode cL_targetAt 6 = .ok (.astore_n 2, 1) := by decide +kernel
theorem dL_targetAt_7 : decode cL_targetAt 7 = .ok (.ldc 17, 2) := by decide +kernel
theorem dL_targetAt_9 : decode cL_targetAt 9 = .ok (.ireturn, 1) := by decide +kernel
theorem dL_dueEntry_0 : decode cL_dueEntry 0 = .ok (.aload_n 0, 1) := by decide +kernel
theorem dL_dueEntry_1 : decode cL_dueEntry 1 = .ok (.invokevirtual 99, 3) := by decide +kernel
theorem dL_dueEntry_4 : decode cL_dueEntry 4 = .ok (.ireturn, 1) := by decide +kernel
theorem dL_dueEntry_5 : decode cL_dueEntry 5 = .ok (.astore_n 1, 1) := by decide +kernel
theorem dL_dueEntry_6 : decode cL_dueEntry 6 = .ok (.ldc 17, 2) := by decide +kernel
theorem dL_dueEntry_8 : decode cL_dueEntry 8 = .ok (.ireturn, 1) := by decide +kernel
theorem dL_planEnd_0 : decode cL_planEnd 0 = .ok (.aload_n 0, 1) := by decide +kernel
theorem dL_planEnd_1 : decode cL_planEnd 1 = .ok (.invokevirtual 103, 3) := by decide +kernel
theorem dL_planEnd_4 : decode cL_planEnd 4 = .ok (.ireturn, 1) := by decide +kernel
theorem dL_planEnd_5 : decode cL_planEnd 5 = .ok (.astore_n 1, 1) := by decide +kernel
theorem dL_planEnd_6 : decode cL_planEnd 6 = .ok (.ldc 17, 2) := by decide +kernel
theorem dL_planEnd_8 : decode cL_planEnd 8 = .ok (.ireturn, 1) := by decide +kernel
theorem dL_writeWeek_0 : decode cL_writeWeek 0 = .ok (.aload_n 0, 1) := by decide +kernel
theorem dL_writeWeek_1 : decode cL_writeWeek 1 = .ok (.iload_n 1, 1) := by decide +kernel
theorem dL_writeWeek_2 : decode cL_writeWeek 2 = .ok (.invokevirtual 106, 3) := by decide +kernel
theorem dL_writeWeek_5 : decode cL_writeWeek 5 = .ok (.ireturn, 1) := by decide +kernel
theorem dL_writeWeek_6 : decode cL_writeWeek 6 = .ok (.astore_n 2, 1) := by decide +kernel
theorem dL_writeWeek_7 : decode cL_writeWeek 7 = .ok (.ldc 17, 2) := by decide +kernel
theorem dL_writeWeek_9 : decode cL_writeWeek 9 = .ok (.ireturn, 1) := by decide +kernel
theorem dL_lineAt_0 : decode cL_lineAt 0 = .ok (.aload_n 0, 1) := by decide +kernel
theorem dL_lineAt_1 : decode cL_lineAt 1 = .ok (.iload_n 1, 1) := by decide +kernel
theorem dL_lineAt_2 : decode cL_lineAt 2 = .ok (.invokevirtual 109, 3) := by decide +kernel
theorem dL_lineAt_5 : decode cL_lineAt 5 = .ok (.ireturn, 1) := by decide +kernel
theorem dL_lineAt_6 : decode cL_lineAt 6 = .ok (.astore_n 2, 1) := by decide +kernel
theorem dL_lineAt_7 : decode cL_lineAt 7 = .ok (.ldc 17, 2) := by decide +kernel
theorem dL_lineAt_9 : decode cL_lineAt 9 = .ok (.ireturn, 1) := by decide +kernel
theorem dL_undo_0 : decode cL_undo 0 = .ok (.aload_n 0, 1) := by decide +kernel
theorem dL_undo_1 : decode cL_undo 1 = .ok (.invokevirtual 113, 3) := by decide +kernel
theorem dL_undo_4 : decode cL_undo 4 = .ok (.ireturn, 1) := by decide +kernel
theorem dL_undo_5 : decode cL_undo 5 = .ok (.astore_n 1, 1) := by decide +kernel
theorem dL_undo_6 : decode cL_undo 6 = .ok (.ldc 17, 2) := by decide +kernel
theorem dL_undo_8 : decode cL_undo 8 = .ok (.ireturn, 1) := by decide +kernel
theorem dL_restore_0 : decode cL_restore 0 = .ok (.aload_n 0, 1) := by decide +kernel
theorem dL_restore_1 : decode cL_restore 1 = .ok (.invokevirtual 116, 3) := by decide +kernel
theorem dL_restore_4 : decode cL_restore 4 = .ok (.ireturn, 1) := by decide +kernel
theorem dL_restore_5 : decode cL_restore 5 = .ok (.astore_n 1, 1) := by decide +kernel
theorem dL_restore_6 : decode cL_restore 6 = .ok (.ldc 17, 2) := by decide +kernel
theorem dL_restore_8 : decode cL_restore 8 = .ok (.ireturn, 1) := by decide +kernel
theorem dL_in_0 : decode cL_in 0 = .ok (.aload_n 0, 1) := by decide +kernel
theorem dL_in_1 : decode cL_in 1 = .ok (.iload_n 1, 1) := by decide +kernel
theorem dL_in_2 : decode cL_in 2 = .ok (.invokestatic 119, 3) := by decide +kernel
theorem dL_in_5 : decode cL_in 5 = .ok (.ldc 125, 2) := by decide +kernel
theorem dL_in_7 : decode cL_in 7 = .ok (.iand, 1) := by decide +kernel
theorem dL_in_8 : decode cL_in 8 = .ok (.iload_n 2, 1) := by decide +kernel
theorem dL_in_9 : decode cL_in 9 = .ok (.irem, 1) := by decide +kernel
theorem dL_in_10 : decode cL_in 10 = .ok (.ireturn, 1) := by decide +kernel
theorem dL_begun_0 : decode cL_begun 0 = .ok (.sipush 900, 3) := by decide +kernel
theorem dL_begun_3 : decode cL_begun 3 = .ok (.newarray .int, 2) := by decide +kernel
theorem dL_begun_5 : decode cL_begun 5 = .ok (.astore_n 0, 1) := by decide +kernel
theorem dL_begun_6 : decode cL_begun 6 = .ok (.iconst 2, 1) := by decide +kernel
theorem dL_begun_7 : decode cL_begun 7 = .ok (.istore_n 1, 1) := by decide +kernel
theorem dL_begun_8 : decode cL_begun 8 = .ok (.iload_n 1, 1) := by decide +kernel
theorem dL_begun_9 : decode cL_begun 9 = .ok (.iconst 5, 1) := by decide +kernel
theorem dL_begun_10 : decode cL_begun 10 = .ok (.if_icmp .gt 22, 3) := by decide +kernel
theorem dL_begun_13 : decode cL_begun 13 = .ok (.aload_n 0, 1) := by decide +kernel
theorem dL_begun_14 : decode cL_begun 14 = .ok (.bipush 20, 2) := by decide +kernel
theorem dL_begun_16 : decode cL_begun 16 = .ok (.iload_n 1, 1) := by decide +kernel
theorem dL_begun_17 : decode cL_begun 17 = .ok (.iadd, 1) := by decide +kernel
theorem dL_begun_18 : decode cL_begun 18 = .ok (.bipush 60, 2) := by decide +kernel
theorem dL_begun_20 : decode cL_begun 20 = .ok (.bipush 10, 2) := by decide +kernel
theorem dL_begun_22 : decode cL_begun 22 = .ok (.iload_n 1, 1) := by decide +kernel
theorem dL_begun_23 : decode cL_begun 23 = .ok (.imul, 1) := by decide +kernel
theorem dL_begun_24 : decode cL_begun 24 = .ok (.iadd, 1) := by decide +kernel
theorem dL_begun_25 : decode cL_begun 25 = .ok (.iastore, 1) := by decide +kernel
theorem dL_begun_26 : decode cL_begun 26 = .ok (.iinc 1 1, 3) := by decide +kernel
theorem dL_begun_29 : decode cL_begun 29 = .ok (.goto (-21), 3) := by decide +kernel
theorem dL_begun_32 : decode cL_begun 32 = .ok (.iconst 1, 1) := by decide +kernel
theorem dL_begun_33 : decode cL_begun 33 = .ok (.istore_n 1, 1) := by decide +kernel
theorem dL_begun_34 : decode cL_begun 34 = .ok (.iload_n 1, 1) := by decide +kernel
theorem dL_begun_35 : decode cL_begun 35 = .ok (.iconst 5, 1) := by decide +kernel
theorem dL_begun_36 : decode cL_begun 36 = .ok (.if_icmp .gt 35, 3) := by decide +kernel
theorem dL_begun_39 : decode cL_begun 39 = .ok (.aload_n 0, 1) := by decide +kernel
theorem dL_begun_40 : decode cL_begun 40 = .ok (.bipush 30, 2) := by decide +kernel
theorem dL_begun_42 : decode cL_begun 42 = .ok (.iload_n 1, 1) := by decide +kernel
theorem dL_begun_43 : decode cL_begun 43 = .ok (.iadd, 1) := by decide +kernel
theorem dL_begun_44 : decode cL_begun 44 = .ok (.iload_n 1, 1) := by decide +kernel
theorem dL_begun_45 : decode cL_begun 45 = .ok (.iconst 4, 1) := by decide +kernel
theorem dL_begun_46 : decode cL_begun 46 = .ok (.if_icmp .ne 7, 3) := by decide +kernel
theorem dL_begun_49 : decode cL_begun 49 = .ok (.iconst 5, 1) := by decide +kernel
theorem dL_begun_50 : decode cL_begun 50 = .ok (.goto 14, 3) := by decide +kernel
theorem dL_begun_53 : decode cL_begun 53 = .ok (.iload_n 1, 1) := by decide +kernel
theorem dL_begun_54 : decode cL_begun 54 = .ok (.iconst 5, 1) := by decide +kernel
theorem dL_begun_55 : decode cL_begun 55 = .ok (.if_icmp .ne 8, 3) := by decide +kernel
theorem dL_begun_58 : decode cL_begun 58 = .ok (.bipush 8, 2) := by decide +kernel
theorem dL_begun_60 : decode cL_begun 60 = .ok (.goto 4, 3) := by decide +kernel
theorem dL_begun_63 : decode cL_begun 63 = .ok (.iload_n 1, 1) := by decide +kernel
theorem dL_begun_64 : decode cL_begun 64 = .ok (.iastore, 1) := by decide +kernel
theorem dL_begun_65 : decode cL_begun 65 = .ok (.iinc 1 1, 3) := by decide +kernel
theorem dL_begun_68 : decode cL_begun 68 = .ok (.goto (-34), 3) := by decide +kernel
theorem dL_begun_71 : decode cL_begun 71 = .ok (.aload_n 0, 1) := by decide +kernel
theorem dL_begun_72 : decode cL_begun 72 = .ok (.areturn, 1) := by decide +kernel
theorem dL_copy_0 : decode cL_copy 0 = .ok (.aload_n 0, 1) := by decide +kernel
theorem dL_copy_1 : decode cL_copy 1 = .ok (.arraylength, 1) := by decide +kernel
theorem dL_copy_2 : decode cL_copy 2 = .ok (.newarray .int, 2) := by decide +kernel
theorem dL_copy_4 : decode cL_copy 4 = .ok (.astore_n 1, 1) := by decide +kernel
theorem dL_copy_5 : decode cL_copy 5 = .ok (.iconst 0, 1) := by decide +kernel
theorem dL_copy_6 : decode cL_copy 6 = .ok (.istore_n 2, 1) := by decide +kernel
theorem dL_copy_7 : decode cL_copy 7 = .ok (.iload_n 2, 1) := by decide +kernel
theorem dL_copy_8 : decode cL_copy 8 = .ok (.aload_n 0, 1) := by decide +kernel
theorem dL_copy_9 : decode cL_copy 9 = .ok (.arraylength, 1) := by decide +kernel
theorem dL_copy_10 : decode cL_copy 10 = .ok (.if_icmp .ge 15, 3) := by decide +kernel
theorem dL_copy_13 : decode cL_copy 13 = .ok (.aload_n 1, 1) := by decide +kernel
theorem dL_copy_14 : decode cL_copy 14 = .ok (.iload_n 2, 1) := by decide +kernel
theorem dL_copy_15 : decode cL_copy 15 = .ok (.aload_n 0, 1) := by decide +kernel
theorem dL_copy_16 : decode cL_copy 16 = .ok (.iload_n 2, 1) := by decide +kernel
theorem dL_copy_17 : decode cL_copy 17 = .ok (.iaload, 1) := by decide +kernel
theorem dL_copy_18 : decode cL_copy 18 = .ok (.iastore, 1) := by decide +kernel
theorem dL_copy_19 : decode cL_copy 19 = .ok (.iinc 2 1, 3) := by decide +kernel
theorem dL_copy_22 : decode cL_copy 22 = .ok (.goto (-15), 3) := by decide +kernel
theorem dL_copy_25 : decode cL_copy 25 = .ok (.aload_n 1, 1) := by decide +kernel
theorem dL_copy_26 : decode cL_copy 26 = .ok (.areturn, 1) := by decide +kernel
theorem dL_threshold_0 : decode cL_threshold 0 = .ok (.iload_n 1, 1) := by decide +kernel
theorem dL_threshold_1 : decode cL_threshold 1 = .ok (.istore_n 2, 1) := by decide +kernel
theorem dL_threshold_2 : decode cL_threshold 2 = .ok (.iload_n 2, 1) := by decide +kernel
theorem dL_threshold_3 : decode cL_threshold 3 = .ok (.ifCond .lt 45, 3) := by decide +kernel
theorem dL_threshold_6 : decode cL_threshold 6 = .ok (.iconst 0, 1) := by decide +kernel
theorem dL_threshold_7 : decode cL_threshold 7 = .ok (.istore_n 3, 1) := by decide +kernel
theorem dL_threshold_8 : decode cL_threshold 8 = .ok (.iload_n 3, 1) := by decide +kernel
theorem dL_threshold_9 : decode cL_threshold 9 = .ok (.aload_n 0, 1) := by decide +kernel
theorem dL_threshold_10 : decode cL_threshold 10 = .ok (.iconst 3, 1) := by decide +kernel
theorem dL_threshold_11 : decode cL_threshold 11 = .ok (.iaload, 1) := by decide +kernel
theorem dL_threshold_12 : decode cL_threshold 12 = .ok (.if_icmp .ge 30, 3) := by decide +kernel
theorem dL_threshold_15 : decode cL_threshold 15 = .ok (.aload_n 0, 1) := by decide +kernel
theorem dL_threshold_16 : decode cL_threshold 16 = .ok (.bipush 40, 2) := by decide +kernel
theorem dL_threshold_18 : decode cL_threshold 18 = .ok (.iconst 2, 1) := by decide +kernel
theorem dL_threshold_19 : decode cL_threshold 19 = .ok (.iload_n 3, 1) := by decide +kernel
theorem dL_threshold_20 : decode cL_threshold 20 = .ok (.imul, 1) := by decide +kernel
theorem dL_threshold_21 : decode cL_threshold 21 = .ok (.iadd, 1) := by decide +kernel
theorem dL_threshold_22 : decode cL_threshold 22 = .ok (.iaload, 1) := by decide +kernel
theorem dL_threshold_23 : decode cL_threshold 23 = .ok (.iload_n 2, 1) := by decide +kernel
theorem dL_threshold_24 : decode cL_threshold 24 = .ok (.if_icmp .ne 12, 3) := by decide +kernel
theorem dL_threshold_27 : decode cL_threshold 27 = .ok (.aload_n 0, 1) := by decide +kernel
theorem dL_threshold_28 : decode cL_threshold 28 = .ok (.bipush 41, 2) := by decide +kernel
theorem dL_threshold_30 : decode cL_threshold 30 = .ok (.iconst 2, 1) := by decide +kernel
theorem dL_threshold_31 : decode cL_threshold 31 = .ok (.iload_n 3, 1) := by decide +kernel
theorem dL_threshold_32 : decode cL_threshold 32 = .ok (.imul, 1) := by decide +kernel
theorem dL_threshold_33 : decode cL_threshold 33 = .ok (.iadd, 1) := by decide +kernel
theorem dL_threshold_34 : decode cL_threshold 34 = .ok (.iaload, 1) := by decide +kernel
theorem dL_threshold_35 : decode cL_threshold 35 = .ok (.ireturn, 1) := by decide +kernel
theorem dL_threshold_36 : decode cL_threshold 36 = .ok (.iinc 3 1, 3) := by decide +kernel
theorem dL_threshold_39 : decode cL_threshold 39 = .ok (.goto (-31), 3) := by decide +kernel
theorem dL_threshold_42 : decode cL_threshold 42 = .ok (.iinc 2 (-1), 3) := by decide +kernel
theorem dL_threshold_45 : decode cL_threshold 45 = .ok (.goto (-43), 3) := by decide +kernel
theorem dL_threshold_48 : decode cL_threshold 48 = .ok (.sipush 200, 3) := by decide +kernel
theorem dL_threshold_51 : decode cL_threshold 51 = .ok (.ireturn, 1) := by decide +kernel
theorem dL_zone_0 : decode cL_zone 0 = .ok (.iconst 5, 1) := by decide +kernel
theorem dL_zone_1 : decode cL_zone 1 = .ok (.istore_n 3, 1) := by decide +kernel
theorem dL_zone_2 : decode cL_zone 2 = .ok (.iload_n 3, 1) := by decide +kernel
theorem dL_zone_3 : decode cL_zone 3 = .ok (.iconst 1, 1) := by decide +kernel
theorem dL_zone_4 : decode cL_zone 4 = .ok (.if_icmp .le 28, 3) := by decide +kernel
theorem dL_zone_7 : decode cL_zone 7 = .ok (.bipush 100, 2) := by decide +kernel
theorem dL_zone_9 : decode cL_zone 9 = .ok (.iload_n 2, 1) := by decide +kernel
theorem dL_zone_10 : decode cL_zone 10 = .ok (.imul, 1) := by decide +kernel
theorem dL_zone_11 : decode cL_zone 11 = .ok (.aload_n 0, 1) := by decide +kernel
theorem dL_zone_12 : decode cL_zone 12 = .ok (.bipush 20, 2) := by decide +kernel
theorem dL_zone_14 : decode cL_zone 14 = .ok (.iload_n 3, 1) := by decide +kernel
theorem dL_zone_15 : decode cL_zone 15 = .ok (.iadd, 1) := by decide +kernel
theorem dL_zone_16 : decode cL_zone 16 = .ok (.iaload, 1) := by decide +kernel
theorem dL_zone_17 : decode cL_zone 17 = .ok (.aload_n 0, 1) := by decide +kernel
theorem dL_zone_18 : decode cL_zone 18 = .ok (.iload_n 1, 1) := by decide +kernel
theorem dL_zone_19 : decode cL_zone 19 = .ok (.invokestatic 126, 3) := by decide +kernel
theorem dL_zone_22 : decode cL_zone 22 = .ok (.imul, 1) := by decide +kernel
theorem dL_zone_23 : decode cL_zone 23 = .ok (.if_icmp .ge 9, 3) := by decide +kernel
theorem dL_zone_26 : decode cL_zone 26 = .ok (.iinc 3 (-1), 3) := by decide +kernel
theorem dL_zone_29 : decode cL_zone 29 = .ok (.goto (-27), 3) := by decide +kernel
theorem dL_zone_32 : decode cL_zone 32 = .ok (.iload_n 3, 1) := by decide +kernel
theorem dL_zone_33 : decode cL_zone 33 = .ok (.ireturn, 1) := by decide +kernel
theorem dL_minutes_0 : decode cL_minutes 0 = .ok (.bipush 100, 2) := by decide +kernel
theorem dL_minutes_2 : decode cL_minutes 2 = .ok (.bipush 20, 2) := by decide +kernel
theorem dL_minutes_4 : decode cL_minutes 4 = .ok (.iload_n 1, 1) := by decide +kernel
theorem dL_minutes_5 : decode cL_minutes 5 = .ok (.imul, 1) := by decide +kernel
theorem dL_minutes_6 : decode cL_minutes 6 = .ok (.iadd, 1) := by decide +kernel
theorem dL_minutes_7 : decode cL_minutes 7 = .ok (.istore_n 3, 1) := by decide +kernel
theorem dL_minutes_8 : decode cL_minutes 8 = .ok (.iconst 0, 1) := by decide +kernel
theorem dL_minutes_9 : decode cL_minutes 9 = .ok (.istore 4, 2) := by decide +kernel
theorem dL_minutes_11 : decode cL_minutes 11 = .ok (.iconst 0, 1) := by decide +kernel
theorem dL_minutes_12 : decode cL_minutes 12 = .ok (.istore 5, 2) := by decide +kernel
theorem dL_minutes_14 : decode cL_minutes 14 = .ok (.iload 5, 2) := by decide +kernel
theorem dL_minutes_16 : decode cL_minutes 16 = .ok (.aload_n 0, 1) := by decide +kernel
theorem dL_minutes_17 : decode cL_minutes 17 = .ok (.iload_n 3, 1) := by decide +kernel
theorem dL_minutes_18 : decode cL_minutes 18 = .ok (.iconst 2, 1) := by decide +kernel
theorem dL_minutes_19 : decode cL_minutes 19 = .ok (.iadd, 1) := by decide +kernel
theorem dL_minutes_20 : decode cL_minutes 20 = .ok (.iaload, 1) := by decide +kernel
theorem dL_minutes_21 : decode cL_minutes 21 = .ok (.if_icmp .ge 64, 3) := by decide +kernel
theorem dL_minutes_24 : decode cL_minutes 24 = .ok (.iload_n 2, 1) := by decide +kernel
theorem dL_minutes_25 : decode cL_minutes 25 = .ok (.ifCond .eq 25, 3) := by decide +kernel
theorem dL_minutes_28 : decode cL_minutes 28 = .ok (.aload_n 0, 1) := by decide +kernel
theorem dL_minutes_29 : decode cL_minutes 29 = .ok (.aload_n 0, 1) := by decide +kernel
theorem dL_minutes_30 : decode cL_minutes 30 = .ok (.iload_n 3, 1) := by decide +kernel
theorem dL_minutes_31 : decode cL_minutes 31 = .ok (.iconst 1, 1) := by decide +kernel
theorem dL_minutes_32 : decode cL_minutes 32 = .ok (.iadd, 1) := by decide +kernel
theorem dL_minutes_33 : decode cL_minutes 33 = .ok (.iaload, 1) := by decide +kernel
theorem dL_minutes_34 : decode cL_minutes 34 = .ok (.aload_n 0, 1) := by decide +kernel
theorem dL_minutes_35 : decode cL_minutes 35 = .ok (.iload_n 3, 1) := by decide +kernel
theorem dL_minutes_36 : decode cL_minutes 36 = .ok (.bipush 11, 2) := by decide +kernel
theorem dL_minutes_38 : decode cL_minutes 38 = .ok (.iadd, 1) := by decide +kernel
theorem dL_minutes_39 : decode cL_minutes 39 = .ok (.iload 5, 2) := by decide +kernel
theorem dL_minutes_41 : decode cL_minutes 41 = .ok (.iadd, 1) := by decide +kernel
theorem dL_minutes_42 : decode cL_minutes 42 = .ok (.iaload, 1) := by decide +kernel
theorem dL_minutes_43 : decode cL_minutes 43 = .ok (.invokestatic 129, 3) := by decide +kernel
theorem dL_minutes_46 : decode cL_minutes 46 = .ok (.iload_n 2, 1) := by decide +kernel
theorem dL_minutes_47 : decode cL_minutes 47 = .ok (.if_icmp .ne 7, 3) := by decide +kernel
theorem dL_minutes_50 : decode cL_minutes 50 = .ok (.iconst 1, 1) := by decide +kernel
theorem dL_minutes_51 : decode cL_minutes 51 = .ok (.goto 4, 3) := by decide +kernel
theorem dL_minutes_54 : decode cL_minutes 54 = .ok (.iconst 0, 1) := by decide +kernel
theorem dL_minutes_55 : decode cL_minutes 55 = .ok (.istore 6, 2) := by decide +kernel
theorem dL_minutes_57 : decode cL_minutes 57 = .ok (.iload 4, 2) := by decide +kernel
theorem dL_minutes_59 : decode cL_minutes 59 = .ok (.iload 6, 2) := by decide +kernel
theorem dL_minutes_61 : decode cL_minutes 61 = .ok (.ifCond .eq 14, 3) := by decide +kernel
theorem dL_minutes_64 : decode cL_minutes 64 = .ok (.aload_n 0, 1) := by decide +kernel
theorem dL_minutes_65 : decode cL_minutes 65 = .ok (.iload_n 3, 1) := by decide +kernel
theorem dL_minutes_66 : decode cL_minutes 66 = .ok (.iconst 3, 1) := by decide +kernel
theorem dL_minutes_67 : decode cL_minutes 67 = .ok (.iadd, 1) := by decide +kernel
theorem dL_minutes_68 : decode cL_minutes 68 = .ok (.iload 5, 2) := by decide +kernel
theorem dL_minutes_70 : decode cL_minutes 70 = .ok (.iadd, 1) := by decide +kernel
theorem dL_minutes_71 : decode cL_minutes 71 = .ok (.iaload, 1) := by decide +kernel
theorem dL_minutes_72 : decode cL_minutes 72 = .ok (.goto 4, 3) := by decide +kernel
theorem dL_minutes_75 : decode cL_minutes 75 = .ok (.iconst 0, 1) := by decide +kernel
theorem dL_minutes_76 : decode cL_minutes 76 = .ok (.iadd, 1) := by decide +kernel
theorem dL_minutes_77 : decode cL_minutes 77 = .ok (.istore 4, 2) := by decide +kernel
theorem dL_minutes_79 : decode cL_minutes 79 = .ok (.iinc 5 1, 3) := by decide +kernel
theorem dL_minutes_82 : decode cL_minutes 82 = .ok (.goto (-68), 3) := by decide +kernel
theorem dL_minutes_85 : decode cL_minutes 85 = .ok (.iload 4, 2) := by decide +kernel
theorem dL_minutes_87 : decode cL_minutes 87 = .ok (.ireturn, 1) := by decide +kernel
theorem dL_load_0 : decode cL_load 0 = .ok (.bipush 100, 2) := by decide +kernel
theorem dL_load_2 : decode cL_load 2 = .ok (.bipush 20, 2) := by decide +kernel
theorem dL_load_4 : decode cL_load 4 = .ok (.iload_n 1, 1) := by decide +kernel
theorem dL_load_5 : decode cL_load 5 = .ok (.imul, 1) := by decide +kernel
theorem dL_load_6 : decode cL_load 6 = .ok (.iadd, 1) := by decide +kernel
theorem dL_load_7 : decode cL_load 7 = .ok (.istore_n 2, 1) := by decide +kernel
theorem dL_load_8 : decode cL_load 8 = .ok (.iconst 0, 1) := by decide +kernel
theorem dL_load_9 : decode cL_load 9 = .ok (.istore_n 3, 1) := by decide +kernel
theorem dL_load_10 : decode cL_load 10 = .ok (.iconst 0, 1) := by decide +kernel
theorem dL_load_11 : decode cL_load 11 = .ok (.istore 4, 2) := by decide +kernel
theorem dL_load_13 : decode cL_load 13 = .ok (.iload 4, 2) := by decide +kernel
theorem dL_load_15 : decode cL_load 15 = .ok (.aload_n 0, 1) := by decide +kernel
theorem dL_load_16 : decode cL_load 16 = .ok (.iload_n 2, 1) := by decide +kernel
theorem dL_load_17 : decode cL_load 17 = .ok (.iconst 2, 1) := by decide +kernel
theorem dL_load_18 : decode cL_load 18 = .ok (.iadd, 1) := by decide +kernel
theorem dL_load_19 : decode cL_load 19 = .ok (.iaload, 1) := by decide +kernel
theorem dL_load_20 : decode cL_load 20 = .ok (.if_icmp .ge 44, 3) := by decide +kernel
theorem dL_load_23 : decode cL_load 23 = .ok (.iload_n 3, 1) := by decide +kernel
theorem dL_load_24 : decode cL_load 24 = .ok (.aload_n 0, 1) := by decide +kernel
theorem dL_load_25 : decode cL_load 25 = .ok (.iload_n 2, 1) := by decide +kernel
theorem dL_load_26 : decode cL_load 26 = .ok (.iconst 3, 1) := by decide +kernel
theorem dL_load_27 : decode cL_load 27 = .ok (.iadd, 1) := by decide +kernel
theorem dL_load_28 : decode cL_load 28 = .ok (.iload 4, 2) := by decide +kernel
theorem dL_load_30 : decode cL_load 30 = .ok (.iadd, 1) := by decide +kernel
theorem dL_load_31 : decode cL_load 31 = .ok (.iaload, 1) := by decide +kernel
theorem dL_load_32 : decode cL_load 32 = .ok (.aload_n 0, 1) := by decide +kernel
theorem dL_load_33 : decode cL_load 33 = .ok (.bipush 30, 2) := by decide +kernel
theorem dL_load_35 : decode cL_load 35 = .ok (.aload_n 0, 1) := by decide +kernel
theorem dL_load_36 : decode cL_load 36 = .ok (.aload_n 0, 1) := by decide +kernel
theorem dL_load_37 : decode cL_load 37 = .ok (.iload_n 2, 1) := by decide +kernel
theorem dL_load_38 : decode cL_load 38 = .ok (.iconst 1, 1) := by decide +kernel
theorem dL_load_39 : decode cL_load 39 = .ok (.iadd, 1) := by decide +kernel
theorem dL_load_40 : decode cL_load 40 = .ok (.iaload, 1) := by decide +kernel
theorem dL_load_41 : decode cL_load 41 = .ok (.aload_n 0, 1) := by decide +kernel
theorem dL_load_42 : decode cL_load 42 = .ok (.iload_n 2, 1) := by decide +kernel
theorem dL_load_43 : decode cL_load 43 = .ok (.bipush 11, 2) := by decide +kernel
theorem dL_load_45 : decode cL_load 45 = .ok (.iadd, 1) := by decide +kernel
theorem dL_load_46 : decode cL_load 46 = .ok (.iload 4, 2) := by decide +kernel
theorem dL_load_48 : decode cL_load 48 = .ok (.iadd, 1) := by decide +kernel
theorem dL_load_49 : decode cL_load 49 = .ok (.iaload, 1) := by decide +kernel
theorem dL_load_50 : decode cL_load 50 = .ok (.invokestatic 129, 3) := by decide +kernel
theorem dL_load_53 : decode cL_load 53 = .ok (.iadd, 1) := by decide +kernel
theorem dL_load_54 : decode cL_load 54 = .ok (.iaload, 1) := by decide +kernel
theorem dL_load_55 : decode cL_load 55 = .ok (.imul, 1) := by decide +kernel
theorem dL_load_56 : decode cL_load 56 = .ok (.iadd, 1) := by decide +kernel
theorem dL_load_57 : decode cL_load 57 = .ok (.istore_n 3, 1) := by decide +kernel
theorem dL_load_58 : decode cL_load 58 = .ok (.iinc 4 1, 3) := by decide +kernel
theorem dL_load_61 : decode cL_load 61 = .ok (.goto (-48), 3) := by decide +kernel
theorem dL_load_64 : decode cL_load 64 = .ok (.iload_n 3, 1) := by decide +kernel
theorem dL_load_65 : decode cL_load 65 = .ok (.ireturn, 1) := by decide +kernel
theorem dL_loadOf__0 : decode cL_loadOf_ 0 = .ok (.iconst 0, 1) := by decide +kernel
theorem dL_loadOf__1 : decode cL_loadOf_ 1 = .ok (.istore_n 2, 1) := by decide +kernel
theorem dL_loadOf__2 : decode cL_loadOf_ 2 = .ok (.iconst 0, 1) := by decide +kernel
theorem dL_loadOf__3 : decode cL_loadOf_ 3 = .ok (.istore_n 3, 1) := by decide +kernel
theorem dL_loadOf__4 : decode cL_loadOf_ 4 = .ok (.iload_n 3, 1) := by decide +kernel
theorem dL_loadOf__5 : decode cL_loadOf_ 5 = .ok (.aload_n 0, 1) := by decide +kernel
theorem dL_loadOf__6 : decode cL_loadOf_ 6 = .ok (.iconst 2, 1) := by decide +kernel
theorem dL_loadOf__7 : decode cL_loadOf_ 7 = .ok (.iaload, 1) := by decide +kernel
theorem dL_loadOf__8 : decode cL_loadOf_ 8 = .ok (.if_icmp .ge 34, 3) := by decide +kernel
theorem dL_loadOf__11 : decode cL_loadOf_ 11 = .ok (.iload_n 2, 1) := by decide +kernel
theorem dL_loadOf__12 : decode cL_loadOf_ 12 = .ok (.aload_n 0, 1) := by decide +kernel
theorem dL_loadOf__13 : decode cL_loadOf_ 13 = .ok (.bipush 101, 2) := by decide +kernel
theorem dL_loadOf__15 : decode cL_loadOf_ 15 = .ok (.bipush 20, 2) := by decide +kernel
theorem dL_loadOf__17 : decode cL_loadOf_ 17 = .ok (.iload_n 3, 1) := by decide +kernel
theorem dL_loadOf__18 : decode cL_loadOf_ 18 = .ok (.imul, 1) := by decide +kernel
theorem dL_loadOf__19 : decode cL_loadOf_ 19 = .ok (.iadd, 1) := by decide +kernel
theorem dL_loadOf__20 : decode cL_loadOf_ 20 = .ok (.iaload, 1) := by decide +kernel
theorem dL_loadOf__21 : decode cL_loadOf_ 21 = .ok (.iload_n 1, 1) := by decide +kernel
theorem dL_loadOf__22 : decode cL_loadOf_ 22 = .ok (.if_icmp .ne 11, 3) := by decide +kernel
theorem dL_loadOf__25 : decode cL_loadOf_ 25 = .ok (.aload_n 0, 1) := by decide +kernel
theorem dL_loadOf__26 : decode cL_loadOf_ 26 = .ok (.iload_n 3, 1) := by decide +kernel
theorem dL_loadOf__27 : decode cL_loadOf_ 27 = .ok (.invokestatic 133, 3) := by decide +kernel
theorem dL_loadOf__30 : decode cL_loadOf_ 30 = .ok (.goto 4, 3) := by decide +kernel
theorem dL_loadOf__33 : decode cL_loadOf_ 33 = .ok (.iconst 0, 1) := by decide +kernel
theorem dL_loadOf__34 : decode cL_loadOf_ 34 = .ok (.iadd, 1) := by decide +kernel
theorem dL_loadOf__35 : decode cL_loadOf_ 35 = .ok (.istore_n 2, 1) := by decide +kernel
theorem dL_loadOf__36 : decode cL_loadOf_ 36 = .ok (.iinc 3 1, 3) := by decide +kernel
theorem dL_loadOf__39 : decode cL_loadOf_ 39 = .ok (.goto (-35), 3) := by decide +kernel
theorem dL_loadOf__42 : decode cL_loadOf_ 42 = .ok (.iload_n 2, 1) := by decide +kernel
theorem dL_loadOf__43 : decode cL_loadOf_ 43 = .ok (.ireturn, 1) := by decide +kernel
theorem dL_place_0 : decode cL_place 0 = .ok (.aload_n 0, 1) := by decide +kernel
theorem dL_place_1 : decode cL_place 1 = .ok (.iconst 2, 1) := by decide +kernel
theorem dL_place_2 : decode cL_place 2 = .ok (.iaload, 1) := by decide +kernel
theorem dL_place_3 : decode cL_place 3 = .ok (.iconst 1, 1) := by decide +kernel
theorem dL_place_4 : decode cL_place 4 = .ok (.isub, 1) := by decide +kernel
theorem dL_place_5 : decode cL_place 5 = .ok (.istore_n 2, 1) := by decide +kernel
theorem dL_place_6 : decode cL_place 6 = .ok (.iload_n 2, 1) := by decide +kernel
theorem dL_place_7 : decode cL_place 7 = .ok (.ifCond .lt 22, 3) := by decide +kernel
theorem dL_place_10 : decode cL_place 10 = .ok (.aload_n 0, 1) := by decide +kernel
theorem dL_place_11 : decode cL_place 11 = .ok (.bipush 100, 2) := by decide +kernel
theorem dL_place_13 : decode cL_place 13 = .ok (.bipush 20, 2) := by decide +kernel
theorem dL_place_15 : decode cL_place 15 = .ok (.iload_n 2, 1) := by decide +kernel
theorem dL_place_16 : decode cL_place 16 = .ok (.imul, 1) := by decide +kernel
theorem dL_place_17 : decode cL_place 17 = .ok (.iadd, 1) := by decide +kernel
theorem dL_place_18 : decode cL_place 18 = .ok (.iaload, 1) := by decide +kernel
theorem dL_place_19 : decode cL_place 19 = .ok (.iload_n 1, 1) := by decide +kernel
theorem dL_place_20 : decode cL_place 20 = .ok (.if_icmp .eq 9, 3) := by decide +kernel
theorem dL_place_23 : decode cL_place 23 = .ok (.iinc 2 (-1), 3) := by decide +kernel
theorem dL_place_26 : decode cL_place 26 = .ok (.goto (-20), 3) := by decide +kernel
theorem dL_place_29 : decode cL_place 29 = .ok (.iload_n 2, 1) := by decide +kernel
theorem dL_place_30 : decode cL_place 30 = .ok (.ireturn, 1) := by decide +kernel
theorem dL_ranked_0 : decode cL_ranked 0 = .ok (.iconst (-1), 1) := by decide +kernel
theorem dL_ranked_1 : decode cL_ranked 1 = .ok (.istore_n 2, 1) := by decide +kernel
theorem dL_ranked_2 : decode cL_ranked 2 = .ok (.iconst (-1), 1) := by decide +kernel
theorem dL_ranked_3 : decode cL_ranked 3 = .ok (.istore_n 3, 1) := by decide +kernel
theorem dL_ranked_4 : decode cL_ranked 4 = .ok (.iconst 0, 1) := by decide +kernel
theorem dL_ranked_5 : decode cL_ranked 5 = .ok (.istore 4, 2) := by decide +kernel
theorem dL_ranked_7 : decode cL_ranked 7 = .ok (.iload 4, 2) := by decide +kernel
theorem dL_ranked_9 : decode cL_ranked 9 = .ok (.iload_n 1, 1) := by decide +kernel
theorem dL_ranked_10 : decode cL_ranked 10 = .ok (.if_icmp .gt 100, 3) := by decide +kernel
theorem dL_ranked_13 : decode cL_ranked 13 = .ok (.iconst (-1), 1) := by decide +kernel
theorem dL_ranked_14 : decode cL_ranked 14 = .ok (.istore 5, 2) := by decide +kernel
theorem dL_ranked_16 : decode cL_ranked 16 = .ok (.iconst 0, 1) := by decide +kernel
theorem dL_ranked_17 : decode cL_ranked 17 = .ok (.istore 6, 2) := by decide +kernel
theorem dL_ranked_19 : decode cL_ranked 19 = .ok (.iload 6, 2) := by decide +kernel
theorem dL_ranked_21 : decode cL_ranked 21 = .ok (.aload_n 0, 1) := by decide +kernel
theorem dL_ranked_22 : decode cL_ranked 22 = .ok (.iconst 2, 1) := by decide +kernel
theorem dL_ranked_23 : decode cL_ranked 23 = .ok (.iaload, 1) := by decide +kernel
theorem dL_ranked_24 : decode cL_ranked 24 = .ok (.if_icmp .ge 77, 3) := by decide +kernel
theorem dL_ranked_27 : decode cL_ranked 27 = .ok (.sipush 1000, 3) := by decide +kernel
theorem dL_ranked_30 : decode cL_ranked 30 = .ok (.aload_n 0, 1) := by decide +kernel
theorem dL_ranked_31 : decode cL_ranked 31 = .ok (.bipush 101, 2) := by decide +kernel
theorem dL_ranked_33 : decode cL_ranked 33 = .ok (.bipush 20, 2) := by decide +kernel
theorem dL_ranked_35 : decode cL_ranked 35 = .ok (.iload 6, 2) := by decide +kernel
theorem dL_ranked_37 : decode cL_ranked 37 = .ok (.imul, 1) := by decide +kernel
theorem dL_ranked_38 : decode cL_ranked 38 = .ok (.iadd, 1) := by decide +kernel
theorem dL_ranked_39 : decode cL_ranked 39 = .ok (.iaload, 1) := by decide +kernel
theorem dL_ranked_40 : decode cL_ranked 40 = .ok (.imul, 1) := by decide +kernel
theorem dL_ranked_41 : decode cL_ranked 41 = .ok (.aload_n 0, 1) := by decide +kernel
theorem dL_ranked_42 : decode cL_ranked 42 = .ok (.bipush 100, 2) := by decide +kernel
theorem dL_ranked_44 : decode cL_ranked 44 = .ok (.bipush 20, 2) := by decide +kernel
theorem dL_ranked_46 : decode cL_ranked 46 = .ok (.iload 6, 2) := by decide +kernel
theorem dL_ranked_48 : decode cL_ranked 48 = .ok (.imul, 1) := by decide +kernel
theorem dL_ranked_49 : decode cL_ranked 49 = .ok (.iadd, 1) := by decide +kernel
theorem dL_ranked_50 : decode cL_ranked 50 = .ok (.iaload, 1) := by decide +kernel
theorem dL_ranked_51 : decode cL_ranked 51 = .ok (.iadd, 1) := by decide +kernel
theorem dL_ranked_52 : decode cL_ranked 52 = .ok (.istore 7, 2) := by decide +kernel
theorem dL_ranked_54 : decode cL_ranked 54 = .ok (.iload 7, 2) := by decide +kernel
theorem dL_ranked_56 : decode cL_ranked 56 = .ok (.iload_n 2, 1) := by decide +kernel
theorem dL_ranked_57 : decode cL_ranked 57 = .ok (.if_icmp .le 20, 3) := by decide +kernel
theorem dL_ranked_60 : decode cL_ranked 60 = .ok (.iload 5, 2) := by decide +kernel
theorem dL_ranked_62 : decode cL_ranked 62 = .ok (.ifCond .lt 10, 3) := by decide +kernel
theorem dL_ranked_65 : decode cL_ranked 65 = .ok (.iload 7, 2) := by decide +kernel
theorem dL_ranked_67 : decode cL_ranked 67 = .ok (.iload 5, 2) := by decide +kernel
theorem dL_ranked_69 : decode cL_ranked 69 = .ok (.if_icmp .ge 8, 3) := by decide +kernel
theorem dL_ranked_72 : decode cL_ranked 72 = .ok (.iload 7, 2) := by decide +kernel
theorem dL_ranked_74 : decode cL_ranked 74 = .ok (.goto 5, 3) := by decide +kernel
theorem dL_ranked_77 : decode cL_ranked 77 = .ok (.iload 5, 2) := by decide +kernel
theorem dL_ranked_79 : decode cL_ranked 79 = .ok (.istore 5, 2) := by decide +kernel
theorem dL_ranked_81 : decode cL_ranked 81 = .ok (.iload 5, 2) := by decide +kernel
theorem dL_ranked_83 : decode cL_ranked 83 = .ok (.iload 7, 2) := by decide +kernel
theorem dL_ranked_85 : decode cL_ranked 85 = .ok (.if_icmp .ne 8, 3) := by decide +kernel
theorem dL_ranked_88 : decode cL_ranked 88 = .ok (.iload 6, 2) := by decide +kernel
theorem dL_ranked_90 : decode cL_ranked 90 = .ok (.goto 4, 3) := by decide +kernel
theorem dL_ranked_93 : decode cL_ranked 93 = .ok (.iload_n 3, 1) := by decide +kernel
theorem dL_ranked_94 : decode cL_ranked 94 = .ok (.istore_n 3, 1) := by decide +kernel
theorem dL_ranked_95 : decode cL_ranked 95 = .ok (.iinc 6 1, 3) := by decide +kernel
theorem dL_ranked_98 : decode cL_ranked 98 = .ok (.goto (-79), 3) := by decide +kernel
theorem dL_ranked_101 : decode cL_ranked 101 = .ok (.iload 5, 2) := by decide +kernel
theorem dL_ranked_103 : decode cL_ranked 103 = .ok (.istore_n 2, 1) := by decide +kernel
theorem dL_ranked_104 : decode cL_ranked 104 = .ok (.iinc 4 1, 3) := by decide +kernel
theorem dL_ranked_107 : decode cL_ranked 107 = .ok (.goto (-100), 3) := by decide +kernel
theorem dL_ranked_110 : decode cL_ranked 110 = .ok (.iload_n 3, 1) := by decide +kernel
theorem dL_ranked_111 : decode cL_ranked 111 = .ok (.ireturn, 1) := by decide +kernel
theorem dL_isDone_0 : decode cL_isDone 0 = .ok (.aload_n 1, 1) := by decide +kernel
theorem dL_isDone_1 : decode cL_isDone 1 = .ok (.invokestatic 136, 3) := by decide +kernel
theorem dL_isDone_4 : decode cL_isDone 4 = .ok (.astore 5, 2) := by decide +kernel
theorem dL_isDone_6 : decode cL_isDone 6 = .ok (.aload_n 0, 1) := by decide +kernel
theorem dL_isDone_7 : decode cL_isDone 7 = .ok (.aload_n 1, 1) := by decide +kernel
theorem dL_isDone_8 : decode cL_isDone 8 = .ok (.aload_n 3, 1) := by decide +kernel
theorem dL_isDone_9 : decode cL_isDone 9 = .ok (.iload 4, 2) := by decide +kernel
theorem dL_isDone_11 : decode cL_isDone 11 = .ok (.invokestatic 140, 3) := by decide +kernel
theorem dL_isDone_14 : decode cL_isDone 14 = .ok (.istore 6, 2) := by decide +kernel
theorem dL_isDone_16 : decode cL_isDone 16 = .ok (.aload_n 1, 1) := by decide +kernel
theorem dL_isDone_17 : decode cL_isDone 17 = .ok (.sipush 899, 3) := by decide +kernel
theorem dL_isDone_20 : decode cL_isDone 20 = .ok (.iaload, 1) := by decide +kernel
theorem dL_isDone_21 : decode cL_isDone 21 = .ok (.iconst 1, 1) := by decide +kernel
theorem dL_isDone_22 : decode cL_isDone 22 = .ok (.if_icmp .ne 57, 3) := by decide +kernel
theorem dL_isDone_25 : decode cL_isDone 25 = .ok (.aload_n 1, 1) := by decide +kernel
theorem dL_isDone_26 : decode cL_isDone 26 = .ok (.sipush 899, 3) := by decide +kernel
theorem dL_isDone_29 : decode cL_isDone 29 = .ok (.iconst 0, 1) := by decide +kernel
theorem dL_isDone_30 : decode cL_isDone 30 = .ok (.iastore, 1) := by decide +kernel
theorem dL_isDone_31 : decode cL_isDone 31 = .ok (.iconst 5, 1) := by decide +kernel
theorem dL_isDone_32 : decode cL_isDone 32 = .ok (.istore 7, 2) := by decide +kernel
theorem dL_isDone_34 : decode cL_isDone 34 = .ok (.iload 7, 2) := by decide +kernel
theorem dL_isDone_36 : decode cL_isDone 36 = .ok (.ifCond .le 19, 3) := by decide +kernel
theorem dL_isDone_39 : decode cL_isDone 39 = .ok (.aload_n 2, 1) := by decide +kernel
theorem dL_isDone_40 : decode cL_isDone 40 = .ok (.iload 7, 2) := by decide +kernel
theorem dL_isDone_42 : decode cL_isDone 42 = .ok (.aload_n 2, 1) := by decide +kernel
theorem dL_isDone_43 : decode cL_isDone 43 = .ok (.iload 7, 2) := by decide +kernel
theorem dL_isDone_45 : decode cL_isDone 45 = .ok (.iconst 1, 1) := by decide +kernel
theorem dL_isDone_46 : decode cL_isDone 46 = .ok (.isub, 1) := by decide +kernel
theorem dL_isDone_47 : decode cL_isDone 47 = .ok (.aaload, 1) := by decide +kernel
theorem dL_isDone_48 : decode cL_isDone 48 = .ok (.aastore, 1) := by decide +kernel
theorem dL_isDone_49 : decode cL_isDone 49 = .ok (.iinc 7 (-1), 3) := by decide +kernel
theorem dL_isDone_52 : decode cL_isDone 52 = .ok (.goto (-18), 3) := by decide +kernel
theorem dL_isDone_55 : decode cL_isDone 55 = .ok (.aload_n 2, 1) := by decide +kernel
theorem dL_isDone_56 : decode cL_isDone 56 = .ok (.iconst 0, 1) := by decide +kernel
theorem dL_isDone_57 : decode cL_isDone 57 = .ok (.aload 5, 2) := by decide +kernel
theorem dL_isDone_59 : decode cL_isDone 59 = .ok (.aastore, 1) := by decide +kernel
theorem dL_isDone_60 : decode cL_isDone 60 = .ok (.aload_n 2, 1) := by decide +kernel
theorem dL_isDone_61 : decode cL_isDone 61 = .ok (.bipush 6, 2) := by decide +kernel
theorem dL_isDone_63 : decode cL_isDone 63 = .ok (.aaload, 1) := by decide +kernel
theorem dL_isDone_64 : decode cL_isDone 64 = .ok (.iconst 0, 1) := by decide +kernel
theorem dL_isDone_65 : decode cL_isDone 65 = .ok (.bipush 6, 2) := by decide +kernel
theorem dL_isDone_67 : decode cL_isDone 67 = .ok (.aload_n 2, 1) := by decide +kernel
theorem dL_isDone_68 : decode cL_isDone 68 = .ok (.bipush 6, 2) := by decide +kernel
theorem dL_isDone_70 : decode cL_isDone 70 = .ok (.aaload, 1) := by decide +kernel
theorem dL_isDone_71 : decode cL_isDone 71 = .ok (.iconst 0, 1) := by decide +kernel
theorem dL_isDone_72 : decode cL_isDone 72 = .ok (.iaload, 1) := by decide +kernel
theorem dL_isDone_73 : decode cL_isDone 73 = .ok (.iconst 1, 1) := by decide +kernel
theorem dL_isDone_74 : decode cL_isDone 74 = .ok (.iadd, 1) := by decide +kernel
theorem dL_isDone_75 : decode cL_isDone 75 = .ok (.invokestatic 144, 3) := by decide +kernel
theorem dL_isDone_78 : decode cL_isDone 78 = .ok (.iastore, 1) := by decide +kernel
theorem dL_isDone_79 : decode cL_isDone 79 = .ok (.iload 6, 2) := by decide +kernel
theorem dL_isDone_81 : decode cL_isDone 81 = .ok (.ireturn, 1) := by decide +kernel
theorem dL_isTold_0 : decode cL_isTold 0 = .ok (.aload_n 1, 1) := by decide +kernel
theorem dL_isTold_1 : decode cL_isTold 1 = .ok (.iconst 1, 1) := by decide +kernel
theorem dL_isTold_2 : decode cL_isTold 2 = .ok (.iaload, 1) := by decide +kernel
theorem dL_isTold_3 : decode cL_isTold 3 = .ok (.ifCond .ne 7, 3) := by decide +kernel
theorem dL_isTold_6 : decode cL_isTold 6 = .ok (.iconst 0, 1) := by decide +kernel
theorem dL_isTold_7 : decode cL_isTold 7 = .ok (.goto 13, 3) := by decide +kernel
theorem dL_isTold_10 : decode cL_isTold 10 = .ok (.aload_n 2, 1) := by decide +kernel
theorem dL_isTold_11 : decode cL_isTold 11 = .ok (.iload_n 3, 1) := by decide +kernel
theorem dL_isTold_12 : decode cL_isTold 12 = .ok (.iconst 1, 1) := by decide +kernel
theorem dL_isTold_13 : decode cL_isTold 13 = .ok (.iadd, 1) := by decide +kernel
theorem dL_isTold_14 : decode cL_isTold 14 = .ok (.aload_n 1, 1) := by decide +kernel
theorem dL_isTold_15 : decode cL_isTold 15 = .ok (.iconst 1, 1) := by decide +kernel
theorem dL_isTold_16 : decode cL_isTold 16 = .ok (.iaload, 1) := by decide +kernel
theorem dL_isTold_17 : decode cL_isTold 17 = .ok (.invokestatic 149, 3) := by decide +kernel
theorem dL_isTold_20 : decode cL_isTold 20 = .ok (.istore 4, 2) := by decide +kernel
theorem dL_isTold_22 : decode cL_isTold 22 = .ok (.aload_n 2, 1) := by decide +kernel
theorem dL_isTold_23 : decode cL_isTold 23 = .ok (.iload_n 3, 1) := by decide +kernel
theorem dL_isTold_24 : decode cL_isTold 24 = .ok (.iconst 2, 1) := by decide +kernel
theorem dL_isTold_25 : decode cL_isTold 25 = .ok (.iadd, 1) := by decide +kernel
theorem dL_isTold_26 : decode cL_isTold 26 = .ok (.aload_n 1, 1) := by decide +kernel
theorem dL_isTold_27 : decode cL_isTold 27 = .ok (.iconst 0, 1) := by decide +kernel
theorem dL_isTold_28 : decode cL_isTold 28 = .ok (.iaload, 1) := by decide +kernel
theorem dL_isTold_29 : decode cL_isTold 29 = .ok (.iconst 1, 1) := by decide +kernel
theorem dL_isTold_30 : decode cL_isTold 30 = .ok (.iadd, 1) := by decide +kernel
theorem dL_isTold_31 : decode cL_isTold 31 = .ok (.invokestatic 149, 3) := by decide +kernel
theorem dL_isTold_34 : decode cL_isTold 34 = .ok (.istore 5, 2) := by decide +kernel
theorem dL_isTold_36 : decode cL_isTold 36 = .ok (.aload_n 2, 1) := by decide +kernel
theorem dL_isTold_37 : decode cL_isTold 37 = .ok (.iload_n 3, 1) := by decide +kernel
theorem dL_isTold_38 : decode cL_isTold 38 = .ok (.bipush 20, 2) := by decide +kernel
theorem dL_isTold_40 : decode cL_isTold 40 = .ok (.invokestatic 149, 3) := by decide +kernel
theorem dL_isTold_43 : decode cL_isTold 43 = .ok (.tableswitch 489 0 15 #[77, 77, 77, 176, 197, 242, 270, 337, 337, 337, 337, 362, 372, 396, 449, 449], 77) := by decide +kernel
theorem dL_isTold_120 : decode cL_isTold 120 = .ok (.iconst 1, 1) := by decide +kernel
theorem dL_isTold_121 : decode cL_isTold 121 = .ok (.aload_n 2, 1) := by decide +kernel
theorem dL_isTold_122 : decode cL_isTold 122 = .ok (.iload_n 3, 1) := by decide +kernel
theorem dL_isTold_123 : decode cL_isTold 123 = .ok (.iconst 1, 1) := by decide +kernel
theorem dL_isTold_124 : decode cL_isTold 124 = .ok (.iadd, 1) := by decide +kernel
theorem dL_isTold_125 : decode cL_isTold 125 = .ok (.aload_n 2, 1) := by decide +kernel
theorem dL_isTold_126 : decode cL_isTold 126 = .ok (.iload_n 3, 1) := by decide +kernel
theorem dL_isTold_127 : decode cL_isTold 127 = .ok (.iconst 2, 1) := by decide +kernel
theorem dL_isTold_128 : decode cL_isTold 128 = .ok (.iadd, 1) := by decide +kernel
theorem dL_isTold_129 : decode cL_isTold 129 = .ok (.iconst 5, 1) := by decide +kernel
theorem dL_isTold_130 : decode cL_isTold 130 = .ok (.invokestatic 149, 3) := by decide +kernel
theorem dL_isTold_133 : decode cL_isTold 133 = .ok (.ifCond .ne 8, 3) := by decide +kernel
theorem dL_isTold_136 : decode cL_isTold 136 = .ok (.bipush 30, 2) := by decide +kernel
theorem dL_isTold_138 : decode cL_isTold 138 = .ok (.goto 4, 3) := by decide +kernel
theorem dL_isTold_141 : decode cL_isTold 141 = .ok (.iconst 4, 1) := by decide +kernel
theorem dL_isTold_142 : decode cL_isTold 142 = .ok (.invokestatic 149, 3) := by decide +kernel
theorem dL_isTold_145 : decode cL_isTold 145 = .ok (.iadd, 1) := by decide +kernel
theorem dL_isTold_146 : decode cL_isTold 146 = .ok (.istore 6, 2) := by decide +kernel
theorem dL_isTold_148 : decode cL_isTold 148 = .ok (.aload_n 1, 1) := by decide +kernel
theorem dL_isTold_149 : decode cL_isTold 149 = .ok (.iconst 0, 1) := by decide +kernel
theorem dL_isTold_150 : decode cL_isTold 150 = .ok (.iaload, 1) := by decide +kernel
theorem dL_isTold_151 : decode cL_isTold 151 = .ok (.iload 6, 2) := by decide +kernel
theorem dL_isTold_153 : decode cL_isTold 153 = .ok (.iadd, 1) := by decide +kernel
theorem dL_isTold_154 : decode cL_isTold 154 = .ok (.sipush 199, 3) := by decide +kernel
theorem dL_isTold_157 : decode cL_isTold 157 = .ok (.if_icmp .le 20, 3) := by decide +kernel
theorem dL_isTold_160 : decode cL_isTold 160 = .ok (.aload_n 0, 1) := by decide +kernel
theorem dL_isTold_161 : decode cL_isTold 161 = .ok (.iload 6, 2) := by decide +kernel
theorem dL_isTold_163 : decode cL_isTold 163 = .ok (.invokestatic 152, 3) := by decide +kernel
theorem dL_isTold_166 : decode cL_isTold 166 = .ok (.ldc 20, 2) := by decide +kernel
theorem dL_isTold_168 : decode cL_isTold 168 = .ok (.if_icmp .ne 7, 3) := by decide +kernel
theorem dL_isTold_171 : decode cL_isTold 171 = .ok (.iconst 1, 1) := by decide +kernel
theorem dL_isTold_172 : decode cL_isTold 172 = .ok (.goto 4, 3) := by decide +kernel
theorem dL_isTold_175 : decode cL_isTold 175 = .ok (.iconst 0, 1) := by decide +kernel
theorem dL_isTold_176 : decode cL_isTold 176 = .ok (.ireturn, 1) := by decide +kernel
theorem dL_isTold_177 : decode cL_isTold 177 = .ok (.aload_n 1, 1) := by decide +kernel
theorem dL_isTold_178 : decode cL_isTold 178 = .ok (.iconst 0, 1) := by decide +kernel
theorem dL_isTold_179 : decode cL_isTold 179 = .ok (.dup2, 1) := by decide +kernel
theorem dL_isTold_180 : decode cL_isTold 180 = .ok (.iaload, 1) := by decide +kernel
theorem dL_isTold_181 : decode cL_isTold 181 = .ok (.iload 6, 2) := by decide +kernel
theorem dL_isTold_183 : decode cL_isTold 183 = .ok (.iadd, 1) := by decide +kernel
theorem dL_isTold_184 : decode cL_isTold 184 = .ok (.iastore, 1) := by decide +kernel
theorem dL_isTold_185 : decode cL_isTold 185 = .ok (.aload_n 1, 1) := by decide +kernel
theorem dL_isTold_186 : decode cL_isTold 186 = .ok (.sipush 899, 3) := by decide +kernel
theorem dL_isTold_189 : decode cL_isTold 189 = .ok (.iconst 1, 1) := by decide +kernel
theorem dL_isTold_190 : decode cL_isTold 190 = .ok (.iastore, 1) := by decide +kernel
theorem dL_isTold_191 : decode cL_isTold 191 = .ok (.aload_n 0, 1) := by decide +kernel
theorem dL_isTold_192 : decode cL_isTold 192 = .ok (.iload 6, 2) := by decide +kernel
theorem dL_isTold_194 : decode cL_isTold 194 = .ok (.invokestatic 152, 3) := by decide +kernel
theorem dL_isTold_197 : decode cL_isTold 197 = .ok (.aload_n 1, 1) := by decide +kernel
theorem dL_isTold_198 : decode cL_isTold 198 = .ok (.iconst 0, 1) := by decide +kernel
theorem dL_isTold_199 : decode cL_isTold 199 = .ok (.iaload, 1) := by decide +kernel
theorem dL_isTold_200 : decode cL_isTold 200 = .ok (.if_icmp .ne 17, 3) := by decide +kernel
theorem dL_isTold_203 : decode cL_isTold 203 = .ok (.aload_n 0, 1) := by decide +kernel
theorem dL_isTold_204 : decode cL_isTold 204 = .ok (.invokevirtual 155, 3) := by decide +kernel
theorem dL_isTold_207 : decode cL_isTold 207 = .ok (.aload_n 1, 1) := by decide +kernel
theorem dL_isTold_208 : decode cL_isTold 208 = .ok (.iconst 0, 1) := by decide +kernel
theorem dL_isTold_209 : decode cL_isTold 209 = .ok (.iaload, 1) := by decide +kernel
theorem dL_isTold_210 : decode cL_isTold 210 = .ok (.if_icmp .ne 7, 3) := by decide +kernel
theorem dL_isTold_213 : decode cL_isTold 213 = .ok (.iconst 1, 1) := by decide +kernel
theorem dL_isTold_214 : decode cL_isTold 214 = .ok (.goto 4, 3) := by decide +kernel
theorem dL_isTold_217 : decode cL_isTold 217 = .ok (.iconst 0, 1) := by decide +kernel
theorem dL_isTold_218 : decode cL_isTold 218 = .ok (.ireturn, 1) := by decide +kernel
theorem dL_isTold_219 : decode cL_isTold 219 = .ok (.aload_n 0, 1) := by decide +kernel
theorem dL_isTold_220 : decode cL_isTold 220 = .ok (.aload_n 1, 1) := by decide +kernel
theorem dL_isTold_221 : decode cL_isTold 221 = .ok (.iload 5, 2) := by decide +kernel
theorem dL_isTold_223 : decode cL_isTold 223 = .ok (.bipush 50, 2) := by decide +kernel
theorem dL_isTold_225 : decode cL_isTold 225 = .ok (.aload_n 2, 1) := by decide +kernel
theorem dL_isTold_226 : decode cL_isTold 226 = .ok (.iload_n 3, 1) := by decide +kernel
theorem dL_isTold_227 : decode cL_isTold 227 = .ok (.iconst 1, 1) := by decide +kernel
theorem dL_isTold_228 : decode cL_isTold 228 = .ok (.iadd, 1) := by decide +kernel
theorem dL_isTold_229 : decode cL_isTold 229 = .ok (.sipush 351, 3) := by decide +kernel
theorem dL_isTold_232 : decode cL_isTold 232 = .ok (.invokestatic 149, 3) := by decide +kernel
theorem dL_isTold_235 : decode cL_isTold 235 = .ok (.iadd, 1) := by decide +kernel
theorem dL_isTold_236 : decode cL_isTold 236 = .ok (.invokestatic 158, 3) := by decide +kernel
theorem dL_isTold_239 : decode cL_isTold 239 = .ok (.ireturn, 1) := by decide +kernel
theorem dL_isTold_240 : decode cL_isTold 240 = .ok (.aload_n 0, 1) := by decide +kernel
theorem dL_isTold_241 : decode cL_isTold 241 = .ok (.aload_n 1, 1) := by decide +kernel
theorem dL_isTold_242 : decode cL_isTold 242 = .ok (.aload_n 2, 1) := by decide +kernel
theorem dL_isTold_243 : decode cL_isTold 243 = .ok (.iload_n 3, 1) := by decide +kernel
theorem dL_isTold_244 : decode cL_isTold 244 = .ok (.iconst 1, 1) := by decide +kernel
theorem dL_isTold_245 : decode cL_isTold 245 = .ok (.iadd, 1) := by decide +kernel
theorem dL_isTold_246 : decode cL_isTold 246 = .ok (.iconst 2, 1) := by decide +kernel
theorem dL_isTold_247 : decode cL_isTold 247 = .ok (.invokestatic 149, 3) := by decide +kernel
theorem dL_isTold_250 : decode cL_isTold 250 = .ok (.ifCond .eq 9, 3) := by decide +kernel
theorem dL_isTold_253 : decode cL_isTold 253 = .ok (.aload_n 1, 1) := by decide +kernel
theorem dL_isTold_254 : decode cL_isTold 254 = .ok (.iconst 3, 1) := by decide +kernel
theorem dL_isTold_255 : decode cL_isTold 255 = .ok (.iaload, 1) := by decide +kernel
theorem dL_isTold_256 : decode cL_isTold 256 = .ok (.ifCond .ne 8, 3) := by decide +kernel
theorem dL_isTold_259 : decode cL_isTold 259 = .ok (.iload 5, 2) := by decide +kernel
theorem dL_isTold_261 : decode cL_isTold 261 = .ok (.goto 20, 3) := by decide +kernel
theorem dL_isTold_264 : decode cL_isTold 264 = .ok (.aload_n 1, 1) := by decide +kernel
theorem dL_isTold_265 : decode cL_isTold 265 = .ok (.bipush 40, 2) := by decide +kernel
theorem dL_isTold_267 : decode cL_isTold 267 = .ok (.iconst 2, 1) := by decide +kernel
theorem dL_isTold_268 : decode cL_isTold 268 = .ok (.aload_n 2, 1) := by decide +kernel
theorem dL_isTold_269 : decode cL_isTold 269 = .ok (.iload_n 3, 1) := by decide +kernel
theorem dL_isTold_270 : decode cL_isTold 270 = .ok (.iconst 3, 1) := by decide +kernel
theorem dL_isTold_271 : decode cL_isTold 271 = .ok (.iadd, 1) := by decide +kernel
theorem dL_isTold_272 : decode cL_isTold 272 = .ok (.aload_n 1, 1) := by decide +kernel
theorem dL_isTold_273 : decode cL_isTold 273 = .ok (.iconst 3, 1) := by decide +kernel
theorem dL_isTold_274 : decode cL_isTold 274 = .ok (.iaload, 1) := by decide +kernel
theorem dL_isTold_275 : decode cL_isTold 275 = .ok (.invokestatic 149, 3) := by decide +kernel
theorem dL_isTold_278 : decode cL_isTold 278 = .ok (.imul, 1) := by decide +kernel
theorem dL_isTold_279 : decode cL_isTold 279 = .ok (.iadd, 1) := by decide +kernel
theorem dL_isTold_280 : decode cL_isTold 280 = .ok (.iaload, 1) := by decide +kernel
theorem dL_isTold_281 : decode cL_isTold 281 = .ok (.invokestatic 162, 3) := by decide +kernel
theorem dL_isTold_284 : decode cL_isTold 284 = .ok (.ireturn, 1) := by decide +kernel
theorem dL_isTold_285 : decode cL_isTold 285 = .ok (.aload_n 0, 1) := by decide +kernel
theorem dL_isTold_286 : decode cL_isTold 286 = .ok (.aload_n 1, 1) := by decide +kernel
theorem dL_isTold_287 : decode cL_isTold 287 = .ok (.iconst 2, 1) := by decide +kernel
theorem dL_isTold_288 : decode cL_isTold 288 = .ok (.aload_n 2, 1) := by decide +kernel
theorem dL_isTold_289 : decode cL_isTold 289 = .ok (.iload_n 3, 1) := by decide +kernel
theorem dL_isTold_290 : decode cL_isTold 290 = .ok (.iconst 1, 1) := by decide +kernel
theorem dL_isTold_291 : decode cL_isTold 291 = .ok (.iadd, 1) := by decide +kernel
theorem dL_isTold_292 : decode cL_isTold 292 = .ok (.iconst 4, 1) := by decide +kernel
theorem dL_isTold_293 : decode cL_isTold 293 = .ok (.invokestatic 149, 3) := by decide +kernel
theorem dL_isTold_296 : decode cL_isTold 296 = .ok (.iadd, 1) := by decide +kernel
theorem dL_isTold_297 : decode cL_isTold 297 = .ok (.bipush 60, 2) := by decide +kernel
theorem dL_isTold_299 : decode cL_isTold 299 = .ok (.aload_n 2, 1) := by decide +kernel
theorem dL_isTold_300 : decode cL_isTold 300 = .ok (.iload_n 3, 1) := by decide +kernel
theorem dL_isTold_301 : decode cL_isTold 301 = .ok (.iconst 2, 1) := by decide +kernel
theorem dL_isTold_302 : decode cL_isTold 302 = .ok (.iadd, 1) := by decide +kernel
theorem dL_isTold_303 : decode cL_isTold 303 = .ok (.bipush 80, 2) := by decide +kernel
theorem dL_isTold_305 : decode cL_isTold 305 = .ok (.invokestatic 149, 3) := by decide +kernel
theorem dL_isTold_308 : decode cL_isTold 308 = .ok (.iadd, 1) := by decide +kernel
theorem dL_isTold_309 : decode cL_isTold 309 = .ok (.invokestatic 166, 3) := by decide +kernel
theorem dL_isTold_312 : decode cL_isTold 312 = .ok (.ireturn, 1) := by decide +kernel
theorem dL_isTold_313 : decode cL_isTold 313 = .ok (.iconst 1, 1) := by decide +kernel
theorem dL_isTold_314 : decode cL_isTold 314 = .ok (.aload_n 2, 1) := by decide +kernel
theorem dL_isTold_315 : decode cL_isTold 315 = .ok (.iload_n 3, 1) := by decide +kernel
theorem dL_isTold_316 : decode cL_isTold 316 = .ok (.iconst 1, 1) := by decide +kernel
theorem dL_isTold_317 : decode cL_isTold 317 = .ok (.iadd, 1) := by decide +kernel
theorem dL_isTold_318 : decode cL_isTold 318 = .ok (.iconst 5, 1) := by decide +kernel
theorem dL_isTold_319 : decode cL_isTold 319 = .ok (.invokestatic 149, 3) := by decide +kernel
theorem dL_isTold_322 : decode cL_isTold 322 = .ok (.iadd, 1) := by decide +kernel
theorem dL_isTold_323 : decode cL_isTold 323 = .ok (.istore 6, 2) := by decide +kernel
theorem dL_isTold_325 : decode cL_isTold 325 = .ok (.aload_n 1, 1) := by decide +kernel
theorem dL_isTold_326 : decode cL_isTold 326 = .ok (.bipush 30, 2) := by decide +kernel
theorem dL_isTold_328 : decode cL_isTold 328 = .ok (.iload 6, 2) := by decide +kernel
theorem dL_isTold_330 : decode cL_isTold 330 = .ok (.iadd, 1) := by decide +kernel
theorem dL_isTold_331 : decode cL_isTold 331 = .ok (.iaload, 1) := by decide +kernel
theorem dL_isTold_332 : decode cL_isTold 332 = .ok (.istore 7, 2) := by decide +kernel
theorem dL_isTold_334 : decode cL_isTold 334 = .ok (.aload_n 1, 1) := by decide +kernel
theorem dL_isTold_335 : decode cL_isTold 335 = .ok (.bipush 30, 2) := by decide +kernel
theorem dL_isTold_337 : decode cL_isTold 337 = .ok (.iload 6, 2) := by decide +kernel
theorem dL_isTold_339 : decode cL_isTold 339 = .ok (.iadd, 1) := by decide +kernel
theorem dL_isTold_340 : decode cL_isTold 340 = .ok (.aload_n 2, 1) := by decide +kernel
theorem dL_isTold_341 : decode cL_isTold 341 = .ok (.iload_n 3, 1) := by decide +kernel
theorem dL_isTold_342 : decode cL_isTold 342 = .ok (.iconst 2, 1) := by decide +kernel
theorem dL_isTold_343 : decode cL_isTold 343 = .ok (.iadd, 1) := by decide +kernel
theorem dL_isTold_344 : decode cL_isTold 344 = .ok (.bipush 12, 2) := by decide +kernel
theorem dL_isTold_346 : decode cL_isTold 346 = .ok (.invokestatic 149, 3) := by decide +kernel
theorem dL_isTold_349 : decode cL_isTold 349 = .ok (.iastore, 1) := by decide +kernel
theorem dL_isTold_350 : decode cL_isTold 350 = .ok (.aload_n 1, 1) := by decide +kernel
theorem dL_isTold_351 : decode cL_isTold 351 = .ok (.sipush 899, 3) := by decide +kernel
theorem dL_isTold_354 : decode cL_isTold 354 = .ok (.iconst 1, 1) := by decide +kernel
theorem dL_isTold_355 : decode cL_isTold 355 = .ok (.iastore, 1) := by decide +kernel
theorem dL_isTold_356 : decode cL_isTold 356 = .ok (.aload_n 0, 1) := by decide +kernel
theorem dL_isTold_357 : decode cL_isTold 357 = .ok (.iload 6, 2) := by decide +kernel
theorem dL_isTold_359 : decode cL_isTold 359 = .ok (.aload_n 1, 1) := by decide +kernel
theorem dL_isTold_360 : decode cL_isTold 360 = .ok (.bipush 30, 2) := by decide +kernel
theorem dL_isTold_362 : decode cL_isTold 362 = .ok (.iload 6, 2) := by decide +kernel
theorem dL_isTold_364 : decode cL_isTold 364 = .ok (.iadd, 1) := by decide +kernel
theorem dL_isTold_365 : decode cL_isTold 365 = .ok (.iaload, 1) := by decide +kernel
theorem dL_isTold_366 : decode cL_isTold 366 = .ok (.invokestatic 169, 3) := by decide +kernel
theorem dL_isTold_369 : decode cL_isTold 369 = .ok (.iload 7, 2) := by decide +kernel
theorem dL_isTold_371 : decode cL_isTold 371 = .ok (.if_icmp .ne 7, 3) := by decide +kernel
theorem dL_isTold_374 : decode cL_isTold 374 = .ok (.iconst 1, 1) := by decide +kernel
theorem dL_isTold_375 : decode cL_isTold 375 = .ok (.goto 4, 3) := by decide +kernel
theorem dL_isTold_378 : decode cL_isTold 378 = .ok (.iconst 0, 1) := by decide +kernel
theorem dL_isTold_379 : decode cL_isTold 379 = .ok (.ireturn, 1) := by decide +kernel
theorem dL_isTold_380 : decode cL_isTold 380 = .ok (.aload_n 0, 1) := by decide +kernel
theorem dL_isTold_381 : decode cL_isTold 381 = .ok (.aload_n 1, 1) := by decide +kernel
theorem dL_isTold_382 : decode cL_isTold 382 = .ok (.aload_n 2, 1) := by decide +kernel
theorem dL_isTold_383 : decode cL_isTold 383 = .ok (.iload_n 3, 1) := by decide +kernel
theorem dL_isTold_384 : decode cL_isTold 384 = .ok (.iconst 1, 1) := by decide +kernel
theorem dL_isTold_385 : decode cL_isTold 385 = .ok (.iadd, 1) := by decide +kernel
theorem dL_isTold_386 : decode cL_isTold 386 = .ok (.iconst 2, 1) := by decide +kernel
theorem dL_isTold_387 : decode cL_isTold 387 = .ok (.invokestatic 149, 3) := by decide +kernel
theorem dL_isTold_390 : decode cL_isTold 390 = .ok (.ifCond .ne 9, 3) := by decide +kernel
theorem dL_isTold_393 : decode cL_isTold 393 = .ok (.aload_n 1, 1) := by decide +kernel
theorem dL_isTold_394 : decode cL_isTold 394 = .ok (.iconst 0, 1) := by decide +kernel
theorem dL_isTold_395 : decode cL_isTold 395 = .ok (.iaload, 1) := by decide +kernel
theorem dL_isTold_396 : decode cL_isTold 396 = .ok (.goto 5, 3) := by decide +kernel
theorem dL_isTold_399 : decode cL_isTold 399 = .ok (.iload 5, 2) := by decide +kernel
theorem dL_isTold_401 : decode cL_isTold 401 = .ok (.invokestatic 172, 3) := by decide +kernel
theorem dL_isTold_404 : decode cL_isTold 404 = .ok (.ireturn, 1) := by decide +kernel
theorem dL_isTold_405 : decode cL_isTold 405 = .ok (.aload_n 0, 1) := by decide +kernel
theorem dL_isTold_406 : decode cL_isTold 406 = .ok (.aload_n 1, 1) := by decide +kernel
theorem dL_isTold_407 : decode cL_isTold 407 = .ok (.iload 4, 2) := by decide +kernel
theorem dL_isTold_409 : decode cL_isTold 409 = .ok (.iload 5, 2) := by decide +kernel
theorem dL_isTold_411 : decode cL_isTold 411 = .ok (.invokestatic 175, 3) := by decide +kernel
theorem dL_isTold_414 : decode cL_isTold 414 = .ok (.ireturn, 1) := by decide +kernel
theorem dL_isTold_415 : decode cL_isTold 415 = .ok (.aload_n 0, 1) := by decide +kernel
theorem dL_isTold_416 : decode cL_isTold 416 = .ok (.aload_n 1, 1) := by decide +kernel
theorem dL_isTold_417 : decode cL_isTold 417 = .ok (.iload 4, 2) := by decide +kernel
theorem dL_isTold_419 : decode cL_isTold 419 = .ok (.aload_n 2, 1) := by decide +kernel
theorem dL_isTold_420 : decode cL_isTold 420 = .ok (.iload_n 3, 1) := by decide +kernel
theorem dL_isTold_421 : decode cL_isTold 421 = .ok (.iconst 2, 1) := by decide +kernel
theorem dL_isTold_422 : decode cL_isTold 422 = .ok (.iadd, 1) := by decide +kernel
theorem dL_isTold_423 : decode cL_isTold 423 = .ok (.iconst 2, 1) := by decide +kernel
theorem dL_isTold_424 : decode cL_isTold 424 = .ok (.invokestatic 149, 3) := by decide +kernel
theorem dL_isTold_427 : decode cL_isTold 427 = .ok (.ifCond .ne 7, 3) := by decide +kernel
theorem dL_isTold_430 : decode cL_isTold 430 = .ok (.iconst 1, 1) := by decide +kernel
theorem dL_isTold_431 : decode cL_isTold 431 = .ok (.goto 4, 3) := by decide +kernel
theorem dL_isTold_434 : decode cL_isTold 434 = .ok (.iconst 0, 1) := by decide +kernel
theorem dL_isTold_435 : decode cL_isTold 435 = .ok (.invokestatic 178, 3) := by decide +kernel
theorem dL_isTold_438 : decode cL_isTold 438 = .ok (.ireturn, 1) := by decide +kernel
theorem dL_isTold_439 : decode cL_isTold 439 = .ok (.aload_n 1, 1) := by decide +kernel
theorem dL_isTold_440 : decode cL_isTold 440 = .ok (.iconst 4, 1) := by decide +kernel
theorem dL_isTold_441 : decode cL_isTold 441 = .ok (.iaload, 1) := by decide +kernel
theorem dL_isTold_442 : decode cL_isTold 442 = .ok (.iconst 1, 1) := by decide +kernel
theorem dL_isTold_443 : decode cL_isTold 443 = .ok (.if_icmp .ne 10, 3) := by decide +kernel
theorem dL_isTold_446 : decode cL_isTold 446 = .ok (.aload_n 1, 1) := by decide +kernel
theorem dL_isTold_447 : decode cL_isTold 447 = .ok (.bipush 6, 2) := by decide +kernel
theorem dL_isTold_449 : decode cL_isTold 449 = .ok (.iaload, 1) := by decide +kernel
theorem dL_isTold_450 : decode cL_isTold 450 = .ok (.goto 4, 3) := by decide +kernel
theorem dL_isTold_453 : decode cL_isTold 453 = .ok (.iconst 0, 1) := by decide +kernel
theorem dL_isTold_454 : decode cL_isTold 454 = .ok (.istore 6, 2) := by decide +kernel
theorem dL_isTold_456 : decode cL_isTold 456 = .ok (.aload_n 1, 1) := by decide +kernel
theorem dL_isTold_457 : decode cL_isTold 457 = .ok (.iconst 4, 1) := by decide +kernel
theorem dL_isTold_458 : decode cL_isTold 458 = .ok (.iconst 1, 1) := by decide +kernel
theorem dL_isTold_459 : decode cL_isTold 459 = .ok (.iastore, 1) := by decide +kernel
theorem dL_isTold_460 : decode cL_isTold 460 = .ok (.aload_n 1, 1) := by decide +kernel
theorem dL_isTold_461 : decode cL_isTold 461 = .ok (.iconst 5, 1) := by decide +kernel
theorem dL_isTold_462 : decode cL_isTold 462 = .ok (.aload_n 1, 1) := by decide +kernel
theorem dL_isTold_463 : decode cL_isTold 463 = .ok (.iconst 0, 1) := by decide +kernel
theorem dL_isTold_464 : decode cL_isTold 464 = .ok (.iaload, 1) := by decide +kernel
theorem dL_isTold_465 : decode cL_isTold 465 = .ok (.iastore, 1) := by decide +kernel
theorem dL_isTold_466 : decode cL_isTold 466 = .ok (.aload_n 1, 1) := by decide +kernel
theorem dL_isTold_467 : decode cL_isTold 467 = .ok (.bipush 6, 2) := by decide +kernel
theorem dL_isTold_469 : decode cL_isTold 469 = .ok (.iconst 0, 1) := by decide +kernel
theorem dL_isTold_470 : decode cL_isTold 470 = .ok (.iastore, 1) := by decide +kernel
theorem dL_isTold_471 : decode cL_isTold 471 = .ok (.aload_n 1, 1) := by decide +kernel
theorem dL_isTold_472 : decode cL_isTold 472 = .ok (.sipush 899, 3) := by decide +kernel
theorem dL_isTold_475 : decode cL_isTold 475 = .ok (.iconst 1, 1) := by decide +kernel
theorem dL_isTold_476 : decode cL_isTold 476 = .ok (.iastore, 1) := by decide +kernel
theorem dL_isTold_477 : decode cL_isTold 477 = .ok (.aload_n 0, 1) := by decide +kernel
theorem dL_isTold_478 : decode cL_isTold 478 = .ok (.invokevirtual 182, 3) := by decide +kernel
theorem dL_isTold_481 : decode cL_isTold 481 = .ok (.iload 6, 2) := by decide +kernel
theorem dL_isTold_483 : decode cL_isTold 483 = .ok (.if_icmp .ne 7, 3) := by decide +kernel
theorem dL_isTold_486 : decode cL_isTold 486 = .ok (.iconst 1, 1) := by decide +kernel
theorem dL_isTold_487 : decode cL_isTold 487 = .ok (.goto 4, 3) := by decide +kernel
theorem dL_isTold_490 : decode cL_isTold 490 = .ok (.iconst 0, 1) := by decide +kernel
theorem dL_isTold_491 : decode cL_isTold 491 = .ok (.ireturn, 1) := by decide +kernel
theorem dL_isTold_492 : decode cL_isTold 492 = .ok (.aload_n 0, 1) := by decide +kernel
theorem dL_isTold_493 : decode cL_isTold 493 = .ok (.aload_n 1, 1) := by decide +kernel
theorem dL_isTold_494 : decode cL_isTold 494 = .ok (.aload_n 2, 1) := by decide +kernel
theorem dL_isTold_495 : decode cL_isTold 495 = .ok (.iload_n 3, 1) := by decide +kernel
theorem dL_isTold_496 : decode cL_isTold 496 = .ok (.iconst 1, 1) := by decide +kernel
theorem dL_isTold_497 : decode cL_isTold 497 = .ok (.iadd, 1) := by decide +kernel
theorem dL_isTold_498 : decode cL_isTold 498 = .ok (.iconst 3, 1) := by decide +kernel
theorem dL_isTold_499 : decode cL_isTold 499 = .ok (.invokestatic 149, 3) := by decide +kernel
theorem dL_isTold_502 : decode cL_isTold 502 = .ok (.ifCond .ne 16, 3) := by decide +kernel
theorem dL_isTold_505 : decode cL_isTold 505 = .ok (.aload_n 2, 1) := by decide +kernel
theorem dL_isTold_506 : decode cL_isTold 506 = .ok (.iload_n 3, 1) := by decide +kernel
theorem dL_isTold_507 : decode cL_isTold 507 = .ok (.iconst 2, 1) := by decide +kernel
theorem dL_isTold_508 : decode cL_isTold 508 = .ok (.iadd, 1) := by decide +kernel
theorem dL_isTold_509 : decode cL_isTold 509 = .ok (.sipush 20001, 3) := by decide +kernel
theorem dL_isTold_512 : decode cL_isTold 512 = .ok (.invokestatic 149, 3) := by decide +kernel
theorem dL_isTold_515 : decode cL_isTold 515 = .ok (.goto 13, 3) := by decide +kernel
theorem dL_isTold_518 : decode cL_isTold 518 = .ok (.aload_n 2, 1) := by decide +kernel
theorem dL_isTold_519 : decode cL_isTold 519 = .ok (.iload_n 3, 1) := by decide +kernel
theorem dL_isTold_520 : decode cL_isTold 520 = .ok (.iconst 2, 1) := by decide +kernel
theorem dL_isTold_521 : decode cL_isTold 521 = .ok (.iadd, 1) := by decide +kernel
theorem dL_isTold_522 : decode cL_isTold 522 = .ok (.sipush 900, 3) := by decide +kernel
theorem dL_isTold_525 : decode cL_isTold 525 = .ok (.invokestatic 149, 3) := by decide +kernel
theorem dL_isTold_528 : decode cL_isTold 528 = .ok (.invokestatic 185, 3) := by decide +kernel
theorem dL_isTold_531 : decode cL_isTold 531 = .ok (.ireturn, 1) := by decide +kernel
theorem dL_isTold_532 : decode cL_isTold 532 = .ok (.aload_n 0, 1) := by decide +kernel
theorem dL_isTold_533 : decode cL_isTold 533 = .ok (.aload_n 1, 1) := by decide +kernel
theorem dL_isTold_534 : decode cL_isTold 534 = .ok (.iload 4, 2) := by decide +kernel
theorem dL_isTold_536 : decode cL_isTold 536 = .ok (.iconst 1, 1) := by decide +kernel
theorem dL_isTold_537 : decode cL_isTold 537 = .ok (.aload_n 2, 1) := by decide +kernel
theorem dL_isTold_538 : decode cL_isTold 538 = .ok (.iload_n 3, 1) := by decide +kernel
theorem dL_isTold_539 : decode cL_isTold 539 = .ok (.iconst 2, 1) := by decide +kernel
theorem dL_isTold_540 : decode cL_isTold 540 = .ok (.iadd, 1) := by decide +kernel
theorem dL_isTold_541 : decode cL_isTold 541 = .ok (.bipush 120, 2) := by decide +kernel
theorem dL_isTold_543 : decode cL_isTold 543 = .ok (.invokestatic 149, 3) := by decide +kernel
theorem dL_isTold_546 : decode cL_isTold 546 = .ok (.iadd, 1) := by decide +kernel
theorem dL_isTold_547 : decode cL_isTold 547 = .ok (.aload_n 2, 1) := by decide +kernel
theorem dL_isTold_548 : decode cL_isTold 548 = .ok (.iload_n 3, 1) := by decide +kernel
theorem dL_isTold_549 : decode cL_isTold 549 = .ok (.iconst 3, 1) := by decide +kernel
theorem dL_isTold_550 : decode cL_isTold 550 = .ok (.iadd, 1) := by decide +kernel
theorem dL_isTold_551 : decode cL_isTold 551 = .ok (.sipush 420, 3) := by decide +kernel
theorem dL_isTold_554 : decode cL_isTold 554 = .ok (.invokestatic 149, 3) := by decide +kernel
theorem dL_isTold_557 : decode cL_isTold 557 = .ok (.invokestatic 188, 3) := by decide +kernel
theorem dL_isTold_560 : decode cL_isTold 560 = .ok (.ireturn, 1) := by decide +kernel
theorem dL_isTest_0 : decode cL_isTest 0 = .ok (.iconst 0, 1) := by decide +kernel
theorem dL_isTest_1 : decode cL_isTest 1 = .ok (.istore 4, 2) := by decide +kernel
theorem dL_isTest_3 : decode cL_isTest 3 = .ok (.iconst 0, 1) := by decide +kernel
theorem dL_isTest_4 : decode cL_isTest 4 = .ok (.istore 5, 2) := by decide +kernel
theorem dL_isTest_6 : decode cL_isTest 6 = .ok (.iload 5, 2) := by decide +kernel
theorem dL_isTest_8 : decode cL_isTest 8 = .ok (.aload_n 1, 1) := by decide +kernel
theorem dL_isTest_9 : decode cL_isTest 9 = .ok (.iconst 3, 1) := by decide +kernel
theorem dL_isTest_10 : decode cL_isTest 10 = .ok (.iaload, 1) := by decide +kernel
theorem dL_isTest_11 : decode cL_isTest 11 = .ok (.if_icmp .ge 32, 3) := by decide +kernel
theorem dL_isTest_14 : decode cL_isTest 14 = .ok (.iload 4, 2) := by decide +kernel
theorem dL_isTest_16 : decode cL_isTest 16 = .ok (.aload_n 1, 1) := by decide +kernel
theorem dL_isTest_17 : decode cL_isTest 17 = .ok (.bipush 40, 2) := by decide +kernel
theorem dL_isTest_19 : decode cL_isTest 19 = .ok (.iconst 2, 1) := by decide +kernel
theorem dL_isTest_20 : decode cL_isTest 20 = .ok (.iload 5, 2) := by decide +kernel
theorem dL_isTest_22 : decode cL_isTest 22 = .ok (.imul, 1) := by decide +kernel
theorem dL_isTest_23 : decode cL_isTest 23 = .ok (.iadd, 1) := by decide +kernel
theorem dL_isTest_24 : decode cL_isTest 24 = .ok (.iaload, 1) := by decide +kernel
theorem dL_isTest_25 : decode cL_isTest 25 = .ok (.iload_n 2, 1) := by decide +kernel
theorem dL_isTest_26 : decode cL_isTest 26 = .ok (.if_icmp .ne 7, 3) := by decide +kernel
theorem dL_isTest_29 : decode cL_isTest 29 = .ok (.iconst 1, 1) := by decide +kernel
theorem dL_isTest_30 : decode cL_isTest 30 = .ok (.goto 4, 3) := by decide +kernel
theorem dL_isTest_33 : decode cL_isTest 33 = .ok (.iconst 0, 1) := by decide +kernel
theorem dL_isTest_34 : decode cL_isTest 34 = .ok (.ior, 1) := by decide +kernel
theorem dL_isTest_35 : decode cL_isTest 35 = .ok (.istore 4, 2) := by decide +kernel
theorem dL_isTest_37 : decode cL_isTest 37 = .ok (.iinc 5 1, 3) := by decide +kernel
theorem dL_isTest_40 : decode cL_isTest 40 = .ok (.goto (-34), 3) := by decide +kernel
theorem dL_isTest_43 : decode cL_isTest 43 = .ok (.iload 4, 2) := by decide +kernel
theorem dL_isTest_45 : decode cL_isTest 45 = .ok (.ifCond .ne 11, 3) := by decide +kernel
theorem dL_isTest_48 : decode cL_isTest 48 = .ok (.aload_n 1, 1) := by decide +kernel
theorem dL_isTest_49 : decode cL_isTest 49 = .ok (.iconst 3, 1) := by decide +kernel
theorem dL_isTest_50 : decode cL_isTest 50 = .ok (.iaload, 1) := by decide +kernel
theorem dL_isTest_51 : decode cL_isTest 51 = .ok (.bipush 10, 2) := by decide +kernel
theorem dL_isTest_53 : decode cL_isTest 53 = .ok (.if_icmp .ne 20, 3) := by decide +kernel
theorem dL_isTest_56 : decode cL_isTest 56 = .ok (.aload_n 0, 1) := by decide +kernel
theorem dL_isTest_57 : decode cL_isTest 57 = .ok (.iload_n 2, 1) := by decide +kernel
theorem dL_isTest_58 : decode cL_isTest 58 = .ok (.iload_n 3, 1) := by decide +kernel
theorem dL_isTest_59 : decode cL_isTest 59 = .ok (.invokestatic 192, 3) := by decide +kernel
theorem dL_isTest_62 : decode cL_isTest 62 = .ok (.ldc 20, 2) := by decide +kernel
theorem dL_isTest_64 : decode cL_isTest 64 = .ok (.if_icmp .ne 7, 3) := by decide +kernel
theorem dL_isTest_67 : decode cL_isTest 67 = .ok (.iconst 1, 1) := by decide +kernel
theorem dL_isTest_68 : decode cL_isTest 68 = .ok (.goto 4, 3) := by decide +kernel
theorem dL_isTest_71 : decode cL_isTest 71 = .ok (.iconst 0, 1) := by decide +kernel
theorem dL_isTest_72 : decode cL_isTest 72 = .ok (.ireturn, 1) := by decide +kernel
theorem dL_isTest_73 : decode cL_isTest 73 = .ok (.aload_n 1, 1) := by decide +kernel
theorem dL_isTest_74 : decode cL_isTest 74 = .ok (.invokestatic 136, 3) := by decide +kernel
theorem dL_isTest_77 : decode cL_isTest 77 = .ok (.astore 5, 2) := by decide +kernel
theorem dL_isTest_79 : decode cL_isTest 79 = .ok (.aload_n 1, 1) := by decide +kernel
theorem dL_isTest_80 : decode cL_isTest 80 = .ok (.bipush 40, 2) := by decide +kernel
theorem dL_isTest_82 : decode cL_isTest 82 = .ok (.iconst 2, 1) := by decide +kernel
theorem dL_isTest_83 : decode cL_isTest 83 = .ok (.aload_n 1, 1) := by decide +kernel
theorem dL_isTest_84 : decode cL_isTest 84 = .ok (.iconst 3, 1) := by decide +kernel
theorem dL_isTest_85 : decode cL_isTest 85 = .ok (.iaload, 1) := by decide +kernel
theorem dL_isTest_86 : decode cL_isTest 86 = .ok (.imul, 1) := by decide +kernel
theorem dL_isTest_87 : decode cL_isTest 87 = .ok (.iadd, 1) := by decide +kernel
theorem dL_isTest_88 : decode cL_isTest 88 = .ok (.iload_n 2, 1) := by decide +kernel
theorem dL_isTest_89 : decode cL_isTest 89 = .ok (.iastore, 1) := by decide +kernel
theorem dL_isTest_90 : decode cL_isTest 90 = .ok (.aload_n 1, 1) := by decide +kernel
theorem dL_isTest_91 : decode cL_isTest 91 = .ok (.bipush 41, 2) := by decide +kernel
theorem dL_isTest_93 : decode cL_isTest 93 = .ok (.iconst 2, 1) := by decide +kernel
theorem dL_isTest_94 : decode cL_isTest 94 = .ok (.aload_n 1, 1) := by decide +kernel
theorem dL_isTest_95 : decode cL_isTest 95 = .ok (.iconst 3, 1) := by decide +kernel
theorem dL_isTest_96 : decode cL_isTest 96 = .ok (.iaload, 1) := by decide +kernel
theorem dL_isTest_97 : decode cL_isTest 97 = .ok (.imul, 1) := by decide +kernel
theorem dL_isTest_98 : decode cL_isTest 98 = .ok (.iadd, 1) := by decide +kernel
theorem dL_isTest_99 : decode cL_isTest 99 = .ok (.iload_n 3, 1) := by decide +kernel
theorem dL_isTest_100 : decode cL_isTest 100 = .ok (.iastore, 1) := by decide +kernel
theorem dL_isTest_101 : decode cL_isTest 101 = .ok (.aload_n 1, 1) := by decide +kernel
theorem dL_isTest_102 : decode cL_isTest 102 = .ok (.iconst 3, 1) := by decide +kernel
theorem dL_isTest_103 : decode cL_isTest 103 = .ok (.dup2, 1) := by decide +kernel
theorem dL_isTest_104 : decode cL_isTest 104 = .ok (.iaload, 1) := by decide +kernel
theorem dL_isTest_105 : decode cL_isTest 105 = .ok (.iconst 1, 1) := by decide +kernel
theorem dL_isTest_106 : decode cL_isTest 106 = .ok (.iadd, 1) := by decide +kernel
theorem dL_isTest_107 : decode cL_isTest 107 = .ok (.iastore, 1) := by decide +kernel
theorem dL_isTest_108 : decode cL_isTest 108 = .ok (.aload_n 1, 1) := by decide +kernel
theorem dL_isTest_109 : decode cL_isTest 109 = .ok (.sipush 899, 3) := by decide +kernel
theorem dL_isTest_112 : decode cL_isTest 112 = .ok (.iconst 1, 1) := by decide +kernel
theorem dL_isTest_113 : decode cL_isTest 113 = .ok (.iastore, 1) := by decide +kernel
theorem dL_isTest_114 : decode cL_isTest 114 = .ok (.iconst 0, 1) := by decide +kernel
theorem dL_isTest_115 : decode cL_isTest 115 = .ok (.istore 6, 2) := by decide +kernel
theorem dL_isTest_117 : decode cL_isTest 117 = .ok (.iconst 0, 1) := by decide +kernel
theorem dL_isTest_118 : decode cL_isTest 118 = .ok (.istore 7, 2) := by decide +kernel
theorem dL_isTest_120 : decode cL_isTest 120 = .ok (.iload 7, 2) := by decide +kernel
theorem dL_isTest_122 : decode cL_isTest 122 = .ok (.aload_n 1, 1) := by decide +kernel
theorem dL_isTest_123 : decode cL_isTest 123 = .ok (.iconst 2, 1) := by decide +kernel
theorem dL_isTest_124 : decode cL_isTest 124 = .ok (.iaload, 1) := by decide +kernel
theorem dL_isTest_125 : decode cL_isTest 125 = .ok (.if_icmp .ge 35, 3) := by decide +kernel
theorem dL_isTest_128 : decode cL_isTest 128 = .ok (.iload 6, 2) := by decide +kernel
theorem dL_isTest_130 : decode cL_isTest 130 = .ok (.aload_n 1, 1) := by decide +kernel
theorem dL_isTest_131 : decode cL_isTest 131 = .ok (.iload 7, 2) := by decide +kernel
theorem dL_isTest_133 : decode cL_isTest 133 = .ok (.invokestatic 133, 3) := by decide +kernel
theorem dL_isTest_136 : decode cL_isTest 136 = .ok (.aload 5, 2) := by decide +kernel
theorem dL_isTest_138 : decode cL_isTest 138 = .ok (.iload 7, 2) := by decide +kernel
theorem dL_isTest_140 : decode cL_isTest 140 = .ok (.invokestatic 133, 3) := by decide +kernel
theorem dL_isTest_143 : decode cL_isTest 143 = .ok (.if_icmp .eq 7, 3) := by decide +kernel
theorem dL_isTest_146 : decode cL_isTest 146 = .ok (.iconst 1, 1) := by decide +kernel
theorem dL_isTest_147 : decode cL_isTest 147 = .ok (.goto 4, 3) := by decide +kernel
theorem dL_isTest_150 : decode cL_isTest 150 = .ok (.iconst 0, 1) := by decide +kernel
theorem dL_isTest_151 : decode cL_isTest 151 = .ok (.iadd, 1) := by decide +kernel
theorem dL_isTest_152 : decode cL_isTest 152 = .ok (.istore 6, 2) := by decide +kernel
theorem dL_isTest_154 : decode cL_isTest 154 = .ok (.iinc 7 1, 3) := by decide +kernel
theorem dL_isTest_157 : decode cL_isTest 157 = .ok (.goto (-37), 3) := by decide +kernel
theorem dL_isTest_160 : decode cL_isTest 160 = .ok (.aload_n 0, 1) := by decide +kernel
theorem dL_isTest_161 : decode cL_isTest 161 = .ok (.iload_n 2, 1) := by decide +kernel
theorem dL_isTest_162 : decode cL_isTest 162 = .ok (.iload_n 3, 1) := by decide +kernel
theorem dL_isTest_163 : decode cL_isTest 163 = .ok (.invokestatic 192, 3) := by decide +kernel
theorem dL_isTest_166 : decode cL_isTest 166 = .ok (.iload 6, 2) := by decide +kernel
theorem dL_isTest_168 : decode cL_isTest 168 = .ok (.if_icmp .ne 7, 3) := by decide +kernel
theorem dL_isTest_171 : decode cL_isTest 171 = .ok (.iconst 1, 1) := by decide +kernel
theorem dL_isTest_172 : decode cL_isTest 172 = .ok (.goto 4, 3) := by decide +kernel
theorem dL_isTest_175 : decode cL_isTest 175 = .ok (.iconst 0, 1) := by decide +kernel
theorem dL_isTest_176 : decode cL_isTest 176 = .ok (.ireturn, 1) := by decide +kernel
theorem dL_isNoTest_0 : decode cL_isNoTest 0 = .ok (.aload_n 1, 1) := by decide +kernel
theorem dL_isNoTest_1 : decode cL_isNoTest 1 = .ok (.iconst 3, 1) := by decide +kernel
theorem dL_isNoTest_2 : decode cL_isNoTest 2 = .ok (.iaload, 1) := by decide +kernel
theorem dL_isNoTest_3 : decode cL_isNoTest 3 = .ok (.iconst 1, 1) := by decide +kernel
theorem dL_isNoTest_4 : decode cL_isNoTest 4 = .ok (.isub, 1) := by decide +kernel
theorem dL_isNoTest_5 : decode cL_isNoTest 5 = .ok (.istore_n 3, 1) := by decide +kernel
theorem dL_isNoTest_6 : decode cL_isNoTest 6 = .ok (.iload_n 3, 1) := by decide +kernel
theorem dL_isNoTest_7 : decode cL_isNoTest 7 = .ok (.ifCond .lt 21, 3) := by decide +kernel
theorem dL_isNoTest_10 : decode cL_isNoTest 10 = .ok (.aload_n 1, 1) := by decide +kernel
theorem dL_isNoTest_11 : decode cL_isNoTest 11 = .ok (.bipush 40, 2) := by decide +kernel
theorem dL_isNoTest_13 : decode cL_isNoTest 13 = .ok (.iconst 2, 1) := by decide +kernel
theorem dL_isNoTest_14 : decode cL_isNoTest 14 = .ok (.iload_n 3, 1) := by decide +kernel
theorem dL_isNoTest_15 : decode cL_isNoTest 15 = .ok (.imul, 1) := by decide +kernel
theorem dL_isNoTest_16 : decode cL_isNoTest 16 = .ok (.iadd, 1) := by decide +kernel
theorem dL_isNoTest_17 : decode cL_isNoTest 17 = .ok (.iaload, 1) := by decide +kernel
theorem dL_isNoTest_18 : decode cL_isNoTest 18 = .ok (.iload_n 2, 1) := by decide +kernel
theorem dL_isNoTest_19 : decode cL_isNoTest 19 = .ok (.if_icmp .eq 9, 3) := by decide +kernel
theorem dL_isNoTest_22 : decode cL_isNoTest 22 = .ok (.iinc 3 (-1), 3) := by decide +kernel
theorem dL_isNoTest_25 : decode cL_isNoTest 25 = .ok (.goto (-19), 3) := by decide +kernel
theorem dL_isNoTest_28 : decode cL_isNoTest 28 = .ok (.iload_n 3, 1) := by decide +kernel
theorem dL_isNoTest_29 : decode cL_isNoTest 29 = .ok (.ifCond .ge 19, 3) := by decide +kernel
theorem dL_isNoTest_32 : decode cL_isNoTest 32 = .ok (.aload_n 0, 1) := by decide +kernel
theorem dL_isNoTest_33 : decode cL_isNoTest 33 = .ok (.iload_n 2, 1) := by decide +kernel
theorem dL_isNoTest_34 : decode cL_isNoTest 34 = .ok (.invokestatic 194, 3) := by decide +kernel
theorem dL_isNoTest_37 : decode cL_isNoTest 37 = .ok (.ldc 17, 2) := by decide +kernel
theorem dL_isNoTest_39 : decode cL_isNoTest 39 = .ok (.if_icmp .ne 7, 3) := by decide +kernel
theorem dL_isNoTest_42 : decode cL_isNoTest 42 = .ok (.iconst 1, 1) := by decide +kernel
theorem dL_isNoTest_43 : decode cL_isNoTest 43 = .ok (.goto 4, 3) := by decide +kernel
theorem dL_isNoTest_46 : decode cL_isNoTest 46 = .ok (.iconst 0, 1) := by decide +kernel
theorem dL_isNoTest_47 : decode cL_isNoTest 47 = .ok (.ireturn, 1) := by decide +kernel
theorem dL_isNoTest_48 : decode cL_isNoTest 48 = .ok (.aload_n 1, 1) := by decide +kernel
theorem dL_isNoTest_49 : decode cL_isNoTest 49 = .ok (.bipush 41, 2) := by decide +kernel
theorem dL_isNoTest_51 : decode cL_isNoTest 51 = .ok (.iconst 2, 1) := by decide +kernel
theorem dL_isNoTest_52 : decode cL_isNoTest 52 = .ok (.iload_n 3, 1) := by decide +kernel
theorem dL_isNoTest_53 : decode cL_isNoTest 53 = .ok (.imul, 1) := by decide +kernel
theorem dL_isNoTest_54 : decode cL_isNoTest 54 = .ok (.iadd, 1) := by decide +kernel
theorem dL_isNoTest_55 : decode cL_isNoTest 55 = .ok (.iaload, 1) := by decide +kernel
theorem dL_isNoTest_56 : decode cL_isNoTest 56 = .ok (.istore 4, 2) := by decide +kernel
theorem dL_isNoTest_58 : decode cL_isNoTest 58 = .ok (.bipush 40, 2) := by decide +kernel
theorem dL_isNoTest_60 : decode cL_isNoTest 60 = .ok (.iconst 2, 1) := by decide +kernel
theorem dL_isNoTest_61 : decode cL_isNoTest 61 = .ok (.iload_n 3, 1) := by decide +kernel
theorem dL_isNoTest_62 : decode cL_isNoTest 62 = .ok (.imul, 1) := by decide +kernel
theorem dL_isNoTest_63 : decode cL_isNoTest 63 = .ok (.iadd, 1) := by decide +kernel
theorem dL_isNoTest_64 : decode cL_isNoTest 64 = .ok (.istore 5, 2) := by decide +kernel
theorem dL_isNoTest_66 : decode cL_isNoTest 66 = .ok (.iload 5, 2) := by decide +kernel
theorem dL_isNoTest_68 : decode cL_isNoTest 68 = .ok (.bipush 38, 2) := by decide +kernel
theorem dL_isNoTest_70 : decode cL_isNoTest 70 = .ok (.iconst 2, 1) := by decide +kernel
theorem dL_isNoTest_71 : decode cL_isNoTest 71 = .ok (.aload_n 1, 1) := by decide +kernel
theorem dL_isNoTest_72 : decode cL_isNoTest 72 = .ok (.iconst 3, 1) := by decide +kernel
theorem dL_isNoTest_73 : decode cL_isNoTest 73 = .ok (.iaload, 1) := by decide +kernel
theorem dL_isNoTest_74 : decode cL_isNoTest 74 = .ok (.imul, 1) := by decide +kernel
theorem dL_isNoTest_75 : decode cL_isNoTest 75 = .ok (.iadd, 1) := by decide +kernel
theorem dL_isNoTest_76 : decode cL_isNoTest 76 = .ok (.if_icmp .ge 19, 3) := by decide +kernel
theorem dL_isNoTest_79 : decode cL_isNoTest 79 = .ok (.aload_n 1, 1) := by decide +kernel
theorem dL_isNoTest_80 : decode cL_isNoTest 80 = .ok (.iload 5, 2) := by decide +kernel
theorem dL_isNoTest_82 : decode cL_isNoTest 82 = .ok (.aload_n 1, 1) := by decide +kernel
theorem dL_isNoTest_83 : decode cL_isNoTest 83 = .ok (.iload 5, 2) := by decide +kernel
theorem dL_isNoTest_85 : decode cL_isNoTest 85 = .ok (.iconst 2, 1) := by decide +kernel
theorem dL_isNoTest_86 : decode cL_isNoTest 86 = .ok (.iadd, 1) := by decide +kernel
theorem dL_isNoTest_87 : decode cL_isNoTest 87 = .ok (.iaload, 1) := by decide +kernel
theorem dL_isNoTest_88 : decode cL_isNoTest 88 = .ok (.iastore, 1) := by decide +kernel
theorem dL_isNoTest_89 : decode cL_isNoTest 89 = .ok (.iinc 5 1, 3) := by decide +kernel
theorem dL_isNoTest_92 : decode cL_isNoTest 92 = .ok (.goto (-26), 3) := by decide +kernel
theorem dL_isNoTest_95 : decode cL_isNoTest 95 = .ok (.aload_n 1, 1) := by decide +kernel
theorem dL_isNoTest_96 : decode cL_isNoTest 96 = .ok (.iconst 3, 1) := by decide +kernel
theorem dL_isNoTest_97 : decode cL_isNoTest 97 = .ok (.dup2, 1) := by decide +kernel
theorem dL_isNoTest_98 : decode cL_isNoTest 98 = .ok (.iaload, 1) := by decide +kernel
theorem dL_isNoTest_99 : decode cL_isNoTest 99 = .ok (.iconst 1, 1) := by decide +kernel
theorem dL_isNoTest_100 : decode cL_isNoTest 100 = .ok (.isub, 1) := by decide +kernel
theorem dL_isNoTest_101 : decode cL_isNoTest 101 = .ok (.iastore, 1) := by decide +kernel
theorem dL_isNoTest_102 : decode cL_isNoTest 102 = .ok (.aload_n 1, 1) := by decide +kernel
theorem dL_isNoTest_103 : decode cL_isNoTest 103 = .ok (.sipush 899, 3) := by decide +kernel
theorem dL_isNoTest_106 : decode cL_isNoTest 106 = .ok (.iconst 1, 1) := by decide +kernel
theorem dL_isNoTest_107 : decode cL_isNoTest 107 = .ok (.iastore, 1) := by decide +kernel
theorem dL_isNoTest_108 : decode cL_isNoTest 108 = .ok (.aload_n 0, 1) := by decide +kernel
theorem dL_isNoTest_109 : decode cL_isNoTest 109 = .ok (.iload_n 2, 1) := by decide +kernel
theorem dL_isNoTest_110 : decode cL_isNoTest 110 = .ok (.invokestatic 194, 3) := by decide +kernel
theorem dL_isNoTest_113 : decode cL_isNoTest 113 = .ok (.iload 4, 2) := by decide +kernel
theorem dL_isNoTest_115 : decode cL_isNoTest 115 = .ok (.if_icmp .ne 17, 3) := by decide +kernel
theorem dL_isNoTest_118 : decode cL_isNoTest 118 = .ok (.aload_n 0, 1) := by decide +kernel
theorem dL_isNoTest_119 : decode cL_isNoTest 119 = .ok (.invokevirtual 196, 3) := by decide +kernel
theorem dL_isNoTest_122 : decode cL_isNoTest 122 = .ok (.aload_n 1, 1) := by decide +kernel
theorem dL_isNoTest_123 : decode cL_isNoTest 123 = .ok (.iconst 3, 1) := by decide +kernel
theorem dL_isNoTest_124 : decode cL_isNoTest 124 = .ok (.iaload, 1) := by decide +kernel
theorem dL_isNoTest_125 : decode cL_isNoTest 125 = .ok (.if_icmp .ne 7, 3) := by decide +kernel
theorem dL_isNoTest_128 : decode cL_isNoTest 128 = .ok (.iconst 1, 1) := by decide +kernel
theorem dL_isNoTest_129 : decode cL_isNoTest 129 = .ok (.goto 4, 3) := by decide +kernel
theorem dL_isNoTest_132 : decode cL_isNoTest 132 = .ok (.iconst 0, 1) := by decide +kernel
theorem dL_isNoTest_133 : decode cL_isNoTest 133 = .ok (.ireturn, 1) := by decide +kernel
theorem dL_isBound_0 : decode cL_isBound 0 = .ok (.aload_n 1, 1) := by decide +kernel
theorem dL_isBound_1 : decode cL_isBound 1 = .ok (.invokestatic 136, 3) := by decide +kernel
theorem dL_isBound_4 : decode cL_isBound 4 = .ok (.astore 4, 2) := by decide +kernel
theorem dL_isBound_6 : decode cL_isBound 6 = .ok (.aload 4, 2) := by decide +kernel
theorem dL_isBound_8 : decode cL_isBound 8 = .ok (.bipush 20, 2) := by decide +kernel
theorem dL_isBound_10 : decode cL_isBound 10 = .ok (.iload_n 2, 1) := by decide +kernel
theorem dL_isBound_11 : decode cL_isBound 11 = .ok (.iadd, 1) := by decide +kernel
theorem dL_isBound_12 : decode cL_isBound 12 = .ok (.iload_n 3, 1) := by decide +kernel
theorem dL_isBound_13 : decode cL_isBound 13 = .ok (.iastore, 1) := by decide +kernel
theorem dL_isBound_14 : decode cL_isBound 14 = .ok (.aload 4, 2) := by decide +kernel
theorem dL_isBound_16 : decode cL_isBound 16 = .ok (.bipush 22, 2) := by decide +kernel
theorem dL_isBound_18 : decode cL_isBound 18 = .ok (.iaload, 1) := by decide +kernel
theorem dL_isBound_19 : decode cL_isBound 19 = .ok (.aload 4, 2) := by decide +kernel
theorem dL_isBound_21 : decode cL_isBound 21 = .ok (.bipush 23, 2) := by decide +kernel
theorem dL_isBound_23 : decode cL_isBound 23 = .ok (.iaload, 1) := by decide +kernel
theorem dL_isBound_24 : decode cL_isBound 24 = .ok (.if_icmp .ge 29, 3) := by decide +kernel
theorem dL_isBound_27 : decode cL_isBound 27 = .ok (.aload 4, 2) := by decide +kernel
theorem dL_isBound_29 : decode cL_isBound 29 = .ok (.bipush 23, 2) := by decide +kernel
theorem dL_isBound_31 : decode cL_isBound 31 = .ok (.iaload, 1) := by decide +kernel
theorem dL_isBound_32 : decode cL_isBound 32 = .ok (.aload 4, 2) := by decide +kernel
theorem dL_isBound_34 : decode cL_isBound 34 = .ok (.bipush 24, 2) := by decide +kernel
theorem dL_isBound_36 : decode cL_isBound 36 = .ok (.iaload, 1) := by decide +kernel
theorem dL_isBound_37 : decode cL_isBound 37 = .ok (.if_icmp .ge 16, 3) := by decide +kernel
theorem dL_isBound_40 : decode cL_isBound 40 = .ok (.aload 4, 2) := by decide +kernel
theorem dL_isBound_42 : decode cL_isBound 42 = .ok (.bipush 24, 2) := by decide +kernel
theorem dL_isBound_44 : decode cL_isBound 44 = .ok (.iaload, 1) := by decide +kernel
theorem dL_isBound_45 : decode cL_isBound 45 = .ok (.aload 4, 2) := by decide +kernel
theorem dL_isBound_47 : decode cL_isBound 47 = .ok (.bipush 25, 2) := by decide +kernel
theorem dL_isBound_49 : decode cL_isBound 49 = .ok (.iaload, 1) := by decide +kernel
theorem dL_isBound_50 : decode cL_isBound 50 = .ok (.if_icmp .lt 20, 3) := by decide +kernel
theorem dL_isBound_53 : decode cL_isBound 53 = .ok (.aload_n 0, 1) := by decide +kernel
theorem dL_isBound_54 : decode cL_isBound 54 = .ok (.iload_n 2, 1) := by decide +kernel
theorem dL_isBound_55 : decode cL_isBound 55 = .ok (.iload_n 3, 1) := by decide +kernel
theorem dL_isBound_56 : decode cL_isBound 56 = .ok (.invokestatic 199, 3) := by decide +kernel
theorem dL_isBound_59 : decode cL_isBound 59 = .ok (.ldc 20, 2) := by decide +kernel
theorem dL_isBound_61 : decode cL_isBound 61 = .ok (.if_icmp .ne 7, 3) := by decide +kernel
theorem dL_isBound_64 : decode cL_isBound 64 = .ok (.iconst 1, 1) := by decide +kernel
theorem dL_isBound_65 : decode cL_isBound 65 = .ok (.goto 4, 3) := by decide +kernel
theorem dL_isBound_68 : decode cL_isBound 68 = .ok (.iconst 0, 1) := by decide +kernel
theorem dL_isBound_69 : decode cL_isBound 69 = .ok (.ireturn, 1) := by decide +kernel
theorem dL_isBound_70 : decode cL_isBound 70 = .ok (.aload_n 1, 1) := by decide +kernel
theorem dL_isBound_71 : decode cL_isBound 71 = .ok (.bipush 20, 2) := by decide +kernel
theorem dL_isBound_73 : decode cL_isBound 73 = .ok (.iload_n 2, 1) := by decide +kernel
theorem dL_isBound_74 : decode cL_isBound 74 = .ok (.iadd, 1) := by decide +kernel
theorem dL_isBound_75 : decode cL_isBound 75 = .ok (.iaload, 1) := by decide +kernel
theorem dL_isBound_76 : decode cL_isBound 76 = .ok (.istore 5, 2) := by decide +kernel
theorem dL_isBound_78 : decode cL_isBound 78 = .ok (.aload_n 1, 1) := by decide +kernel
theorem dL_isBound_79 : decode cL_isBound 79 = .ok (.bipush 20, 2) := by decide +kernel
theorem dL_isBound_81 : decode cL_isBound 81 = .ok (.iload_n 2, 1) := by decide +kernel
theorem dL_isBound_82 : decode cL_isBound 82 = .ok (.iadd, 1) := by decide +kernel
theorem dL_isBound_83 : decode cL_isBound 83 = .ok (.iload_n 3, 1) := by decide +kernel
theorem dL_isBound_84 : decode cL_isBound 84 = .ok (.iastore, 1) := by decide +kernel
theorem dL_isBound_85 : decode cL_isBound 85 = .ok (.aload_n 1, 1) := by decide +kernel
theorem dL_isBound_86 : decode cL_isBound 86 = .ok (.sipush 899, 3) := by decide +kernel
theorem dL_isBound_89 : decode cL_isBound 89 = .ok (.iconst 1, 1) := by decide +kernel
theorem dL_isBound_90 : decode cL_isBound 90 = .ok (.iastore, 1) := by decide +kernel
theorem dL_isBound_91 : decode cL_isBound 91 = .ok (.aload_n 0, 1) := by decide +kernel
theorem dL_isBound_92 : decode cL_isBound 92 = .ok (.iload_n 2, 1) := by decide +kernel
theorem dL_isBound_93 : decode cL_isBound 93 = .ok (.iload_n 3, 1) := by decide +kernel
theorem dL_isBound_94 : decode cL_isBound 94 = .ok (.invokestatic 199, 3) := by decide +kernel
theorem dL_isBound_97 : decode cL_isBound 97 = .ok (.iload 5, 2) := by decide +kernel
theorem dL_isBound_99 : decode cL_isBound 99 = .ok (.if_icmp .ne 7, 3) := by decide +kernel
theorem dL_isBound_102 : decode cL_isBound 102 = .ok (.iconst 1, 1) := by decide +kernel
theorem dL_isBound_103 : decode cL_isBound 103 = .ok (.goto 4, 3) := by decide +kernel
theorem dL_isBound_106 : decode cL_isBound 106 = .ok (.iconst 0, 1) := by decide +kernel
theorem dL_isBound_107 : decode cL_isBound 107 = .ok (.ireturn, 1) := by decide +kernel
theorem dL_isSession_0 : decode cL_isSession 0 = .ok (.aload_n 1, 1) := by decide +kernel
theorem dL_isSession_1 : decode cL_isSession 1 = .ok (.iconst 2, 1) := by decide +kernel
theorem dL_isSession_2 : decode cL_isSession 2 = .ok (.iaload, 1) := by decide +kernel
theorem dL_isSession_3 : decode cL_isSession 3 = .ok (.bipush 38, 2) := by decide +kernel
theorem dL_isSession_5 : decode cL_isSession 5 = .ok (.if_icmp .ne 23, 3) := by decide +kernel
theorem dL_isSession_8 : decode cL_isSession 8 = .ok (.aload_n 0, 1) := by decide +kernel
theorem dL_isSession_9 : decode cL_isSession 9 = .ok (.aload_n 1, 1) := by decide +kernel
theorem dL_isSession_10 : decode cL_isSession 10 = .ok (.iconst 0, 1) := by decide +kernel
theorem dL_isSession_11 : decode cL_isSession 11 = .ok (.iaload, 1) := by decide +kernel
theorem dL_isSession_12 : decode cL_isSession 12 = .ok (.iconst 1, 1) := by decide +kernel
theorem dL_isSession_13 : decode cL_isSession 13 = .ok (.iadd, 1) := by decide +kernel
theorem dL_isSession_14 : decode cL_isSession 14 = .ok (.invokestatic 201, 3) := by decide +kernel
theorem dL_isSession_17 : decode cL_isSession 17 = .ok (.ldc 17, 2) := by decide +kernel
theorem dL_isSession_19 : decode cL_isSession 19 = .ok (.if_icmp .ne 7, 3) := by decide +kernel
theorem dL_isSession_22 : decode cL_isSession 22 = .ok (.iconst 1, 1) := by decide +kernel
theorem dL_isSession_23 : decode cL_isSession 23 = .ok (.goto 4, 3) := by decide +kernel
theorem dL_isSession_26 : decode cL_isSession 26 = .ok (.iconst 0, 1) := by decide +kernel
theorem dL_isSession_27 : decode cL_isSession 27 = .ok (.ireturn, 1) := by decide +kernel
theorem dL_isSession_28 : decode cL_isSession 28 = .ok (.bipush 100, 2) := by decide +kernel
theorem dL_isSession_30 : decode cL_isSession 30 = .ok (.bipush 20, 2) := by decide +kernel
theorem dL_isSession_32 : decode cL_isSession 32 = .ok (.aload_n 1, 1) := by decide +kernel
theorem dL_isSession_33 : decode cL_isSession 33 = .ok (.iconst 2, 1) := by decide +kernel
theorem dL_isSession_34 : decode cL_isSession 34 = .ok (.iaload, 1) := by decide +kernel
theorem dL_isSession_35 : decode cL_isSession 35 = .ok (.imul, 1) := by decide +kernel
theorem dL_isSession_36 : decode cL_isSession 36 = .ok (.iadd, 1) := by decide +kernel
theorem dL_isSession_37 : decode cL_isSession 37 = .ok (.istore_n 3, 1) := by decide +kernel
theorem dL_isSession_38 : decode cL_isSession 38 = .ok (.aload_n 1, 1) := by decide +kernel
theorem dL_isSession_39 : decode cL_isSession 39 = .ok (.iload_n 3, 1) := by decide +kernel
theorem dL_isSession_40 : decode cL_isSession 40 = .ok (.aload_n 1, 1) := by decide +kernel
theorem dL_isSession_41 : decode cL_isSession 41 = .ok (.iconst 1, 1) := by decide +kernel
theorem dL_isSession_42 : decode cL_isSession 42 = .ok (.iaload, 1) := by decide +kernel
theorem dL_isSession_43 : decode cL_isSession 43 = .ok (.iastore, 1) := by decide +kernel
theorem dL_isSession_44 : decode cL_isSession 44 = .ok (.aload_n 1, 1) := by decide +kernel
theorem dL_isSession_45 : decode cL_isSession 45 = .ok (.iload_n 3, 1) := by decide +kernel
theorem dL_isSession_46 : decode cL_isSession 46 = .ok (.iconst 1, 1) := by decide +kernel
theorem dL_isSession_47 : decode cL_isSession 47 = .ok (.iadd, 1) := by decide +kernel
theorem dL_isSession_48 : decode cL_isSession 48 = .ok (.iload_n 2, 1) := by decide +kernel
theorem dL_isSession_49 : decode cL_isSession 49 = .ok (.iastore, 1) := by decide +kernel
theorem dL_isSession_50 : decode cL_isSession 50 = .ok (.aload_n 1, 1) := by decide +kernel
theorem dL_isSession_51 : decode cL_isSession 51 = .ok (.iload_n 3, 1) := by decide +kernel
theorem dL_isSession_52 : decode cL_isSession 52 = .ok (.iconst 2, 1) := by decide +kernel
theorem dL_isSession_53 : decode cL_isSession 53 = .ok (.iadd, 1) := by decide +kernel
theorem dL_isSession_54 : decode cL_isSession 54 = .ok (.iconst 0, 1) := by decide +kernel
theorem dL_isSession_55 : decode cL_isSession 55 = .ok (.iastore, 1) := by decide +kernel
theorem dL_isSession_56 : decode cL_isSession 56 = .ok (.aload_n 1, 1) := by decide +kernel
theorem dL_isSession_57 : decode cL_isSession 57 = .ok (.iconst 2, 1) := by decide +kernel
theorem dL_isSession_58 : decode cL_isSession 58 = .ok (.dup2, 1) := by decide +kernel
theorem dL_isSession_59 : decode cL_isSession 59 = .ok (.iaload, 1) := by decide +kernel
theorem dL_isSession_60 : decode cL_isSession 60 = .ok (.iconst 1, 1) := by decide +kernel
theorem dL_isSession_61 : decode cL_isSession 61 = .ok (.iadd, 1) := by decide +kernel
theorem dL_isSession_62 : decode cL_isSession 62 = .ok (.iastore, 1) := by decide +kernel
theorem dL_isSession_63 : decode cL_isSession 63 = .ok (.aload_n 1, 1) := by decide +kernel
theorem dL_isSession_64 : decode cL_isSession 64 = .ok (.iconst 1, 1) := by decide +kernel
theorem dL_isSession_65 : decode cL_isSession 65 = .ok (.dup2, 1) := by decide +kernel
theorem dL_isSession_66 : decode cL_isSession 66 = .ok (.iaload, 1) := by decide +kernel
theorem dL_isSession_67 : decode cL_isSession 67 = .ok (.iconst 1, 1) := by decide +kernel
theorem dL_isSession_68 : decode cL_isSession 68 = .ok (.iadd, 1) := by decide +kernel
theorem dL_isSession_69 : decode cL_isSession 69 = .ok (.iastore, 1) := by decide +kernel
theorem dL_isSession_70 : decode cL_isSession 70 = .ok (.aload_n 1, 1) := by decide +kernel
theorem dL_isSession_71 : decode cL_isSession 71 = .ok (.sipush 899, 3) := by decide +kernel
theorem dL_isSession_74 : decode cL_isSession 74 = .ok (.iconst 1, 1) := by decide +kernel
theorem dL_isSession_75 : decode cL_isSession 75 = .ok (.iastore, 1) := by decide +kernel
theorem dL_isSession_76 : decode cL_isSession 76 = .ok (.aload_n 0, 1) := by decide +kernel
theorem dL_isSession_77 : decode cL_isSession 77 = .ok (.iload_n 2, 1) := by decide +kernel
theorem dL_isSession_78 : decode cL_isSession 78 = .ok (.invokestatic 201, 3) := by decide +kernel
theorem dL_isSession_81 : decode cL_isSession 81 = .ok (.aload_n 1, 1) := by decide +kernel
theorem dL_isSession_82 : decode cL_isSession 82 = .ok (.iload_n 3, 1) := by decide +kernel
theorem dL_isSession_83 : decode cL_isSession 83 = .ok (.iaload, 1) := by decide +kernel
theorem dL_isSession_84 : decode cL_isSession 84 = .ok (.if_icmp .ne 17, 3) := by decide +kernel
theorem dL_isSession_87 : decode cL_isSession 87 = .ok (.aload_n 0, 1) := by decide +kernel
theorem dL_isSession_88 : decode cL_isSession 88 = .ok (.invokevirtual 203, 3) := by decide +kernel
theorem dL_isSession_91 : decode cL_isSession 91 = .ok (.aload_n 1, 1) := by decide +kernel
theorem dL_isSession_92 : decode cL_isSession 92 = .ok (.iconst 2, 1) := by decide +kernel
theorem dL_isSession_93 : decode cL_isSession 93 = .ok (.iaload, 1) := by decide +kernel
theorem dL_isSession_94 : decode cL_isSession 94 = .ok (.if_icmp .ne 7, 3) := by decide +kernel
theorem dL_isSession_97 : decode cL_isSession 97 = .ok (.iconst 1, 1) := by decide +kernel
theorem dL_isSession_98 : decode cL_isSession 98 = .ok (.goto 4, 3) := by decide +kernel
theorem dL_isSession_101 : decode cL_isSession 101 = .ok (.iconst 0, 1) := by decide +kernel
theorem dL_isSession_102 : decode cL_isSession 102 = .ok (.ireturn, 1) := by decide +kernel
theorem dL_isPart_0 : decode cL_isPart 0 = .ok (.aload_n 1, 1) := by decide +kernel
theorem dL_isPart_1 : decode cL_isPart 1 = .ok (.iload_n 2, 1) := by decide +kernel
theorem dL_isPart_2 : decode cL_isPart 2 = .ok (.invokestatic 206, 3) := by decide +kernel
theorem dL_isPart_5 : decode cL_isPart 5 = .ok (.istore 5, 2) := by decide +kernel
theorem dL_isPart_7 : decode cL_isPart 7 = .ok (.iload 5, 2) := by decide +kernel
theorem dL_isPart_9 : decode cL_isPart 9 = .ok (.ifCond .ge 21, 3) := by decide +kernel
theorem dL_isPart_12 : decode cL_isPart 12 = .ok (.aload_n 0, 1) := by decide +kernel
theorem dL_isPart_13 : decode cL_isPart 13 = .ok (.iload_n 2, 1) := by decide +kernel
theorem dL_isPart_14 : decode cL_isPart 14 = .ok (.iconst 0, 1) := by decide +kernel
theorem dL_isPart_15 : decode cL_isPart 15 = .ok (.iconst 0, 1) := by decide +kernel
theorem dL_isPart_16 : decode cL_isPart 16 = .ok (.invokestatic 209, 3) := by decide +kernel
theorem dL_isPart_19 : decode cL_isPart 19 = .ok (.ldc 17, 2) := by decide +kernel
theorem dL_isPart_21 : decode cL_isPart 21 = .ok (.if_icmp .ne 7, 3) := by decide +kernel
theorem dL_isPart_24 : decode cL_isPart 24 = .ok (.iconst 1, 1) := by decide +kernel
theorem dL_isPart_25 : decode cL_isPart 25 = .ok (.goto 4, 3) := by decide +kernel
theorem dL_isPart_28 : decode cL_isPart 28 = .ok (.iconst 0, 1) := by decide +kernel
theorem dL_isPart_29 : decode cL_isPart 29 = .ok (.ireturn, 1) := by decide +kernel
theorem dL_isPart_30 : decode cL_isPart 30 = .ok (.bipush 100, 2) := by decide +kernel
theorem dL_isPart_32 : decode cL_isPart 32 = .ok (.bipush 20, 2) := by decide +kernel
theorem dL_isPart_34 : decode cL_isPart 34 = .ok (.iload 5, 2) := by decide +kernel
theorem dL_isPart_36 : decode cL_isPart 36 = .ok (.imul, 1) := by decide +kernel
theorem dL_isPart_37 : decode cL_isPart 37 = .ok (.iadd, 1) := by decide +kernel
theorem dL_isPart_38 : decode cL_isPart 38 = .ok (.istore 6, 2) := by decide +kernel
theorem dL_isPart_40 : decode cL_isPart 40 = .ok (.aload_n 1, 1) := by decide +kernel
theorem dL_isPart_41 : decode cL_isPart 41 = .ok (.iload 6, 2) := by decide +kernel
theorem dL_isPart_43 : decode cL_isPart 43 = .ok (.iconst 2, 1) := by decide +kernel
theorem dL_isPart_44 : decode cL_isPart 44 = .ok (.iadd, 1) := by decide +kernel
theorem dL_isPart_45 : decode cL_isPart 45 = .ok (.iaload, 1) := by decide +kernel
theorem dL_isPart_46 : decode cL_isPart 46 = .ok (.bipush 8, 2) := by decide +kernel
theorem dL_isPart_48 : decode cL_isPart 48 = .ok (.if_icmp .eq 18, 3) := by decide +kernel
theorem dL_isPart_51 : decode cL_isPart 51 = .ok (.aload_n 1, 1) := by decide +kernel
theorem dL_isPart_52 : decode cL_isPart 52 = .ok (.iload 5, 2) := by decide +kernel
theorem dL_isPart_54 : decode cL_isPart 54 = .ok (.iconst 0, 1) := by decide +kernel
theorem dL_isPart_55 : decode cL_isPart 55 = .ok (.invokestatic 212, 3) := by decide +kernel
theorem dL_isPart_58 : decode cL_isPart 58 = .ok (.iload_n 3, 1) := by decide +kernel
theorem dL_isPart_59 : decode cL_isPart 59 = .ok (.iadd, 1) := by decide +kernel
theorem dL_isPart_60 : decode cL_isPart 60 = .ok (.sipush 240, 3) := by decide +kernel
theorem dL_isPart_63 : decode cL_isPart 63 = .ok (.if_icmp .le 22, 3) := by decide +kernel
theorem dL_isPart_66 : decode cL_isPart 66 = .ok (.aload_n 0, 1) := by decide +kernel
theorem dL_isPart_67 : decode cL_isPart 67 = .ok (.iload_n 2, 1) := by decide +kernel
theorem dL_isPart_68 : decode cL_isPart 68 = .ok (.iload_n 3, 1) := by decide +kernel
theorem dL_isPart_69 : decode cL_isPart 69 = .ok (.iload 4, 2) := by decide +kernel
theorem dL_isPart_71 : decode cL_isPart 71 = .ok (.invokestatic 209, 3) := by decide +kernel
theorem dL_isPart_74 : decode cL_isPart 74 = .ok (.ldc 55, 2) := by decide +kernel
theorem dL_isPart_76 : decode cL_isPart 76 = .ok (.if_icmp .ne 7, 3) := by decide +kernel
theorem dL_isPart_79 : decode cL_isPart 79 = .ok (.iconst 1, 1) := by decide +kernel
theorem dL_isPart_80 : decode cL_isPart 80 = .ok (.goto 4, 3) := by decide +kernel
theorem dL_isPart_83 : decode cL_isPart 83 = .ok (.iconst 0, 1) := by decide +kernel
theorem dL_isPart_84 : decode cL_isPart 84 = .ok (.ireturn, 1) := by decide +kernel
theorem dL_isPart_85 : decode cL_isPart 85 = .ok (.aload_n 1, 1) := by decide +kernel
theorem dL_isPart_86 : decode cL_isPart 86 = .ok (.iload 6, 2) := by decide +kernel
theorem dL_isPart_88 : decode cL_isPart 88 = .ok (.iconst 3, 1) := by decide +kernel
theorem dL_isPart_89 : decode cL_isPart 89 = .ok (.iadd, 1) := by decide +kernel
theorem dL_isPart_90 : decode cL_isPart 90 = .ok (.aload_n 1, 1) := by decide +kernel
theorem dL_isPart_91 : decode cL_isPart 91 = .ok (.iload 6, 2) := by decide +kernel
theorem dL_isPart_93 : decode cL_isPart 93 = .ok (.iconst 2, 1) := by decide +kernel
theorem dL_isPart_94 : decode cL_isPart 94 = .ok (.iadd, 1) := by decide +kernel
theorem dL_isPart_95 : decode cL_isPart 95 = .ok (.iaload, 1) := by decide +kernel
theorem dL_isPart_96 : decode cL_isPart 96 = .ok (.iadd, 1) := by decide +kernel
theorem dL_isPart_97 : decode cL_isPart 97 = .ok (.iload_n 3, 1) := by decide +kernel
theorem dL_isPart_98 : decode cL_isPart 98 = .ok (.iastore, 1) := by decide +kernel
theorem dL_isPart_99 : decode cL_isPart 99 = .ok (.aload_n 1, 1) := by decide +kernel
theorem dL_isPart_100 : decode cL_isPart 100 = .ok (.iload 6, 2) := by decide +kernel
theorem dL_isPart_102 : decode cL_isPart 102 = .ok (.bipush 11, 2) := by decide +kernel
theorem dL_isPart_104 : decode cL_isPart 104 = .ok (.iadd, 1) := by decide +kernel
theorem dL_isPart_105 : decode cL_isPart 105 = .ok (.aload_n 1, 1) := by decide +kernel
theorem dL_isPart_106 : decode cL_isPart 106 = .ok (.iload 6, 2) := by decide +kernel
theorem dL_isPart_108 : decode cL_isPart 108 = .ok (.iconst 2, 1) := by decide +kernel
theorem dL_isPart_109 : decode cL_isPart 109 = .ok (.iadd, 1) := by decide +kernel
theorem dL_isPart_110 : decode cL_isPart 110 = .ok (.iaload, 1) := by decide +kernel
theorem dL_isPart_111 : decode cL_isPart 111 = .ok (.iadd, 1) := by decide +kernel
theorem dL_isPart_112 : decode cL_isPart 112 = .ok (.iload 4, 2) := by decide +kernel
theorem dL_isPart_114 : decode cL_isPart 114 = .ok (.iastore, 1) := by decide +kernel
theorem dL_isPart_115 : decode cL_isPart 115 = .ok (.aload_n 1, 1) := by decide +kernel
theorem dL_isPart_116 : decode cL_isPart 116 = .ok (.iload 6, 2) := by decide +kernel
theorem dL_isPart_118 : decode cL_isPart 118 = .ok (.iconst 2, 1) := by decide +kernel
theorem dL_isPart_119 : decode cL_isPart 119 = .ok (.iadd, 1) := by decide +kernel
theorem dL_isPart_120 : decode cL_isPart 120 = .ok (.dup2, 1) := by decide +kernel
theorem dL_isPart_121 : decode cL_isPart 121 = .ok (.iaload, 1) := by decide +kernel
theorem dL_isPart_122 : decode cL_isPart 122 = .ok (.iconst 1, 1) := by decide +kernel
theorem dL_isPart_123 : decode cL_isPart 123 = .ok (.iadd, 1) := by decide +kernel
theorem dL_isPart_124 : decode cL_isPart 124 = .ok (.iastore, 1) := by decide +kernel
theorem dL_isPart_125 : decode cL_isPart 125 = .ok (.aload_n 1, 1) := by decide +kernel
theorem dL_isPart_126 : decode cL_isPart 126 = .ok (.sipush 899, 3) := by decide +kernel
theorem dL_isPart_129 : decode cL_isPart 129 = .ok (.iconst 1, 1) := by decide +kernel
theorem dL_isPart_130 : decode cL_isPart 130 = .ok (.iastore, 1) := by decide +kernel
theorem dL_isPart_131 : decode cL_isPart 131 = .ok (.aload_n 0, 1) := by decide +kernel
theorem dL_isPart_132 : decode cL_isPart 132 = .ok (.iload_n 2, 1) := by decide +kernel
theorem dL_isPart_133 : decode cL_isPart 133 = .ok (.iload_n 3, 1) := by decide +kernel
theorem dL_isPart_134 : decode cL_isPart 134 = .ok (.iload 4, 2) := by decide +kernel
theorem dL_isPart_136 : decode cL_isPart 136 = .ok (.invokestatic 209, 3) := by decide +kernel
theorem dL_isPart_139 : decode cL_isPart 139 = .ok (.aload_n 1, 1) := by decide +kernel
theorem dL_isPart_140 : decode cL_isPart 140 = .ok (.iload 6, 2) := by decide +kernel
theorem dL_isPart_142 : decode cL_isPart 142 = .ok (.iconst 2, 1) := by decide +kernel
theorem dL_isPart_143 : decode cL_isPart 143 = .ok (.iadd, 1) := by decide +kernel
theorem dL_isPart_144 : decode cL_isPart 144 = .ok (.iaload, 1) := by decide +kernel
theorem dL_isPart_145 : decode cL_isPart 145 = .ok (.if_icmp .ne 7, 3) := by decide +kernel
theorem dL_isPart_148 : decode cL_isPart 148 = .ok (.iconst 1, 1) := by decide +kernel
theorem dL_isPart_149 : decode cL_isPart 149 = .ok (.goto 4, 3) := by decide +kernel
theorem dL_isPart_152 : decode cL_isPart 152 = .ok (.iconst 0, 1) := by decide +kernel
theorem dL_isPart_153 : decode cL_isPart 153 = .ok (.ireturn, 1) := by decide +kernel
theorem dL_isMoved_0 : decode cL_isMoved 0 = .ok (.aload_n 1, 1) := by decide +kernel
theorem dL_isMoved_1 : decode cL_isMoved 1 = .ok (.iload_n 2, 1) := by decide +kernel
theorem dL_isMoved_2 : decode cL_isMoved 2 = .ok (.invokestatic 206, 3) := by decide +kernel
theorem dL_isMoved_5 : decode cL_isMoved 5 = .ok (.istore 4, 2) := by decide +kernel
theorem dL_isMoved_7 : decode cL_isMoved 7 = .ok (.iload 4, 2) := by decide +kernel
theorem dL_isMoved_9 : decode cL_isMoved 9 = .ok (.ifCond .ge 20, 3) := by decide +kernel
theorem dL_isMoved_12 : decode cL_isMoved 12 = .ok (.aload_n 0, 1) := by decide +kernel
theorem dL_isMoved_13 : decode cL_isMoved 13 = .ok (.iload_n 2, 1) := by decide +kernel
theorem dL_isMoved_14 : decode cL_isMoved 14 = .ok (.iconst (-1), 1) := by decide +kernel
theorem dL_isMoved_15 : decode cL_isMoved 15 = .ok (.invokestatic 215, 3) := by decide +kernel
theorem dL_isMoved_18 : decode cL_isMoved 18 = .ok (.ldc 17, 2) := by decide +kernel
theorem dL_isMoved_20 : decode cL_isMoved 20 = .ok (.if_icmp .ne 7, 3) := by decide +kernel
theorem dL_isMoved_23 : decode cL_isMoved 23 = .ok (.iconst 1, 1) := by decide +kernel
theorem dL_isMoved_24 : decode cL_isMoved 24 = .ok (.goto 4, 3) := by decide +kernel
theorem dL_isMoved_27 : decode cL_isMoved 27 = .ok (.iconst 0, 1) := by decide +kernel
theorem dL_isMoved_28 : decode cL_isMoved 28 = .ok (.ireturn, 1) := by decide +kernel
theorem dL_isMoved_29 : decode cL_isMoved 29 = .ok (.aload_n 1, 1) := by decide +kernel
theorem dL_isMoved_30 : decode cL_isMoved 30 = .ok (.bipush 101, 2) := by decide +kernel
theorem dL_isMoved_32 : decode cL_isMoved 32 = .ok (.bipush 20, 2) := by decide +kernel
theorem dL_isMoved_34 : decode cL_isMoved 34 = .ok (.iload 4, 2) := by decide +kernel
theorem dL_isMoved_36 : decode cL_isMoved 36 = .ok (.imul, 1) := by decide +kernel
theorem dL_isMoved_37 : decode cL_isMoved 37 = .ok (.iadd, 1) := by decide +kernel
theorem dL_isMoved_38 : decode cL_isMoved 38 = .ok (.iaload, 1) := by decide +kernel
theorem dL_isMoved_39 : decode cL_isMoved 39 = .ok (.istore 5, 2) := by decide +kernel
theorem dL_isMoved_41 : decode cL_isMoved 41 = .ok (.aload_n 1, 1) := by decide +kernel
theorem dL_isMoved_42 : decode cL_isMoved 42 = .ok (.bipush 101, 2) := by decide +kernel
theorem dL_isMoved_44 : decode cL_isMoved 44 = .ok (.bipush 20, 2) := by decide +kernel
theorem dL_isMoved_46 : decode cL_isMoved 46 = .ok (.iload 4, 2) := by decide +kernel
theorem dL_isMoved_48 : decode cL_isMoved 48 = .ok (.imul, 1) := by decide +kernel
theorem dL_isMoved_49 : decode cL_isMoved 49 = .ok (.iadd, 1) := by decide +kernel
theorem dL_isMoved_50 : decode cL_isMoved 50 = .ok (.iload_n 3, 1) := by decide +kernel
theorem dL_isMoved_51 : decode cL_isMoved 51 = .ok (.iastore, 1) := by decide +kernel
theorem dL_isMoved_52 : decode cL_isMoved 52 = .ok (.aload_n 1, 1) := by decide +kernel
theorem dL_isMoved_53 : decode cL_isMoved 53 = .ok (.sipush 899, 3) := by decide +kernel
theorem dL_isMoved_56 : decode cL_isMoved 56 = .ok (.iconst 1, 1) := by decide +kernel
theorem dL_isMoved_57 : decode cL_isMoved 57 = .ok (.iastore, 1) := by decide +kernel
theorem dL_isMoved_58 : decode cL_isMoved 58 = .ok (.aload_n 0, 1) := by decide +kernel
theorem dL_isMoved_59 : decode cL_isMoved 59 = .ok (.iload_n 2, 1) := by decide +kernel
theorem dL_isMoved_60 : decode cL_isMoved 60 = .ok (.iload_n 3, 1) := by decide +kernel
theorem dL_isMoved_61 : decode cL_isMoved 61 = .ok (.invokestatic 215, 3) := by decide +kernel
theorem dL_isMoved_64 : decode cL_isMoved 64 = .ok (.iload 5, 2) := by decide +kernel
theorem dL_isMoved_66 : decode cL_isMoved 66 = .ok (.if_icmp .ne 7, 3) := by decide +kernel
theorem dL_isMoved_69 : decode cL_isMoved 69 = .ok (.iconst 1, 1) := by decide +kernel
theorem dL_isMoved_70 : decode cL_isMoved 70 = .ok (.goto 4, 3) := by decide +kernel
theorem dL_isMoved_73 : decode cL_isMoved 73 = .ok (.iconst 0, 1) := by decide +kernel
theorem dL_isMoved_74 : decode cL_isMoved 74 = .ok (.ireturn, 1) := by decide +kernel
theorem dL_isRemoved_0 : decode cL_isRemoved 0 = .ok (.aload_n 1, 1) := by decide +kernel
theorem dL_isRemoved_1 : decode cL_isRemoved 1 = .ok (.iload_n 2, 1) := by decide +kernel
theorem dL_isRemoved_2 : decode cL_isRemoved 2 = .ok (.invokestatic 206, 3) := by decide +kernel
theorem dL_isRemoved_5 : decode cL_isRemoved 5 = .ok (.istore 4, 2) := by decide +kernel
theorem dL_isRemoved_7 : decode cL_isRemoved 7 = .ok (.iload 4, 2) := by decide +kernel
theorem dL_isRemoved_9 : decode cL_isRemoved 9 = .ok (.ifCond .ge 31, 3) := by decide +kernel
theorem dL_isRemoved_12 : decode cL_isRemoved 12 = .ok (.iload_n 3, 1) := by decide +kernel
theorem dL_isRemoved_13 : decode cL_isRemoved 13 = .ok (.ifCond .eq 11, 3) := by decide +kernel
theorem dL_isRemoved_16 : decode cL_isRemoved 16 = .ok (.aload_n 0, 1) := by decide +kernel
theorem dL_isRemoved_17 : decode cL_isRemoved 17 = .ok (.iload_n 2, 1) := by decide +kernel
theorem dL_isRemoved_18 : decode cL_isRemoved 18 = .ok (.invokestatic 217, 3) := by decide +kernel
theorem dL_isRemoved_21 : decode cL_isRemoved 21 = .ok (.goto 8, 3) := by decide +kernel
theorem dL_isRemoved_24 : decode cL_isRemoved 24 = .ok (.aload_n 0, 1) := by decide +kernel
theorem dL_isRemoved_25 : decode cL_isRemoved 25 = .ok (.iload_n 2, 1) := by decide +kernel
theorem dL_isRemoved_26 : decode cL_isRemoved 26 = .ok (.invokestatic 219, 3) := by decide +kernel
theorem dL_isRemoved_29 : decode cL_isRemoved 29 = .ok (.ldc 17, 2) := by decide +kernel
theorem dL_isRemoved_31 : decode cL_isRemoved 31 = .ok (.if_icmp .ne 7, 3) := by decide +kernel
theorem dL_isRemoved_34 : decode cL_isRemoved 34 = .ok (.iconst 1, 1) := by decide +kernel
theorem dL_isRemoved_35 : decode cL_isRemoved 35 = .ok (.goto 4, 3) := by decide +kernel
theorem dL_isRemoved_38 : decode cL_isRemoved 38 = .ok (.iconst 0, 1) := by decide +kernel
theorem dL_isRemoved_39 : decode cL_isRemoved 39 = .ok (.ireturn, 1) := by decide +kernel
theorem dL_isRemoved_40 : decode cL_isRemoved 40 = .ok (.aload_n 1, 1) := by decide +kernel
theorem dL_isRemoved_41 : decode cL_isRemoved 41 = .ok (.sipush 899, 3) := by decide +kernel
theorem dL_isRemoved_44 : decode cL_isRemoved 44 = .ok (.iconst 1, 1) := by decide +kernel
theorem dL_isRemoved_45 : decode cL_isRemoved 45 = .ok (.iastore, 1) := by decide +kernel
theorem dL_isRemoved_46 : decode cL_isRemoved 46 = .ok (.iload_n 3, 1) := by decide +kernel
theorem dL_isRemoved_47 : decode cL_isRemoved 47 = .ok (.ifCond .eq 42, 3) := by decide +kernel
theorem dL_isRemoved_50 : decode cL_isRemoved 50 = .ok (.aload_n 1, 1) := by decide +kernel
theorem dL_isRemoved_51 : decode cL_isRemoved 51 = .ok (.bipush 102, 2) := by decide +kernel
theorem dL_isRemoved_53 : decode cL_isRemoved 53 = .ok (.bipush 20, 2) := by decide +kernel
theorem dL_isRemoved_55 : decode cL_isRemoved 55 = .ok (.iload 4, 2) := by decide +kernel
theorem dL_isRemoved_57 : decode cL_isRemoved 57 = .ok (.imul, 1) := by decide +kernel
theorem dL_isRemoved_58 : decode cL_isRemoved 58 = .ok (.iadd, 1) := by decide +kernel
theorem dL_isRemoved_59 : decode cL_isRemoved 59 = .ok (.iaload, 1) := by decide +kernel
theorem dL_isRemoved_60 : decode cL_isRemoved 60 = .ok (.istore 5, 2) := by decide +kernel
theorem dL_isRemoved_62 : decode cL_isRemoved 62 = .ok (.aload_n 1, 1) := by decide +kernel
theorem dL_isRemoved_63 : decode cL_isRemoved 63 = .ok (.bipush 102, 2) := by decide +kernel
theorem dL_isRemoved_65 : decode cL_isRemoved 65 = .ok (.bipush 20, 2) := by decide +kernel
theorem dL_isRemoved_67 : decode cL_isRemoved 67 = .ok (.iload 4, 2) := by decide +kernel
theorem dL_isRemoved_69 : decode cL_isRemoved 69 = .ok (.imul, 1) := by decide +kernel
theorem dL_isRemoved_70 : decode cL_isRemoved 70 = .ok (.iadd, 1) := by decide +kernel
theorem dL_isRemoved_71 : decode cL_isRemoved 71 = .ok (.iconst 0, 1) := by decide +kernel
theorem dL_isRemoved_72 : decode cL_isRemoved 72 = .ok (.iastore, 1) := by decide +kernel
theorem dL_isRemoved_73 : decode cL_isRemoved 73 = .ok (.aload_n 0, 1) := by decide +kernel
theorem dL_isRemoved_74 : decode cL_isRemoved 74 = .ok (.iload_n 2, 1) := by decide +kernel
theorem dL_isRemoved_75 : decode cL_isRemoved 75 = .ok (.invokestatic 217, 3) := by decide +kernel
theorem dL_isRemoved_78 : decode cL_isRemoved 78 = .ok (.iload 5, 2) := by decide +kernel
theorem dL_isRemoved_80 : decode cL_isRemoved 80 = .ok (.if_icmp .ne 7, 3) := by decide +kernel
theorem dL_isRemoved_83 : decode cL_isRemoved 83 = .ok (.iconst 1, 1) := by decide +kernel
theorem dL_isRemoved_84 : decode cL_isRemoved 84 = .ok (.goto 4, 3) := by decide +kernel
theorem dL_isRemoved_87 : decode cL_isRemoved 87 = .ok (.iconst 0, 1) := by decide +kernel
theorem dL_isRemoved_88 : decode cL_isRemoved 88 = .ok (.ireturn, 1) := by decide +kernel
theorem dL_isRemoved_89 : decode cL_isRemoved 89 = .ok (.bipush 100, 2) := by decide +kernel
theorem dL_isRemoved_91 : decode cL_isRemoved 91 = .ok (.bipush 20, 2) := by decide +kernel
theorem dL_isRemoved_93 : decode cL_isRemoved 93 = .ok (.iload 4, 2) := by decide +kernel
theorem dL_isRemoved_95 : decode cL_isRemoved 95 = .ok (.imul, 1) := by decide +kernel
theorem dL_isRemoved_96 : decode cL_isRemoved 96 = .ok (.iadd, 1) := by decide +kernel
theorem dL_isRemoved_97 : decode cL_isRemoved 97 = .ok (.istore 5, 2) := by decide +kernel
theorem dL_isRemoved_99 : decode cL_isRemoved 99 = .ok (.iload 5, 2) := by decide +kernel
theorem dL_isRemoved_101 : decode cL_isRemoved 101 = .ok (.bipush 80, 2) := by decide +kernel
theorem dL_isRemoved_103 : decode cL_isRemoved 103 = .ok (.bipush 20, 2) := by decide +kernel
theorem dL_isRemoved_105 : decode cL_isRemoved 105 = .ok (.aload_n 1, 1) := by decide +kernel
theorem dL_isRemoved_106 : decode cL_isRemoved 106 = .ok (.iconst 2, 1) := by decide +kernel
theorem dL_isRemoved_107 : decode cL_isRemoved 107 = .ok (.iaload, 1) := by decide +kernel
theorem dL_isRemoved_108 : decode cL_isRemoved 108 = .ok (.imul, 1) := by decide +kernel
theorem dL_isRemoved_109 : decode cL_isRemoved 109 = .ok (.iadd, 1) := by decide +kernel
theorem dL_isRemoved_110 : decode cL_isRemoved 110 = .ok (.if_icmp .ge 20, 3) := by decide +kernel
theorem dL_isRemoved_113 : decode cL_isRemoved 113 = .ok (.aload_n 1, 1) := by decide +kernel
theorem dL_isRemoved_114 : decode cL_isRemoved 114 = .ok (.iload 5, 2) := by decide +kernel
theorem dL_isRemoved_116 : decode cL_isRemoved 116 = .ok (.aload_n 1, 1) := by decide +kernel
theorem dL_isRemoved_117 : decode cL_isRemoved 117 = .ok (.iload 5, 2) := by decide +kernel
theorem dL_isRemoved_119 : decode cL_isRemoved 119 = .ok (.bipush 20, 2) := by decide +kernel
theorem dL_isRemoved_121 : decode cL_isRemoved 121 = .ok (.iadd, 1) := by decide +kernel
theorem dL_isRemoved_122 : decode cL_isRemoved 122 = .ok (.iaload, 1) := by decide +kernel
theorem dL_isRemoved_123 : decode cL_isRemoved 123 = .ok (.iastore, 1) := by decide +kernel
theorem dL_isRemoved_124 : decode cL_isRemoved 124 = .ok (.iinc 5 1, 3) := by decide +kernel
theorem dL_isRemoved_127 : decode cL_isRemoved 127 = .ok (.goto (-28), 3) := by decide +kernel
theorem dL_isRemoved_130 : decode cL_isRemoved 130 = .ok (.aload_n 1, 1) := by decide +kernel
theorem dL_isRemoved_131 : decode cL_isRemoved 131 = .ok (.iconst 2, 1) := by decide +kernel
theorem dL_isRemoved_132 : decode cL_isRemoved 132 = .ok (.dup2, 1) := by decide +kernel
theorem dL_isRemoved_133 : decode cL_isRemoved 133 = .ok (.iaload, 1) := by decide +kernel
theorem dL_isRemoved_134 : decode cL_isRemoved 134 = .ok (.iconst 1, 1) := by decide +kernel
theorem dL_isRemoved_135 : decode cL_isRemoved 135 = .ok (.isub, 1) := by decide +kernel
theorem dL_isRemoved_136 : decode cL_isRemoved 136 = .ok (.iastore, 1) := by decide +kernel
theorem dL_isRemoved_137 : decode cL_isRemoved 137 = .ok (.aload_n 0, 1) := by decide +kernel
theorem dL_isRemoved_138 : decode cL_isRemoved 138 = .ok (.iload_n 2, 1) := by decide +kernel
theorem dL_isRemoved_139 : decode cL_isRemoved 139 = .ok (.invokestatic 219, 3) := by decide +kernel
theorem dL_isRemoved_142 : decode cL_isRemoved 142 = .ok (.aload_n 1, 1) := by decide +kernel
theorem dL_isRemoved_143 : decode cL_isRemoved 143 = .ok (.iconst 2, 1) := by decide +kernel
theorem dL_isRemoved_144 : decode cL_isRemoved 144 = .ok (.iaload, 1) := by decide +kernel
theorem dL_isRemoved_145 : decode cL_isRemoved 145 = .ok (.if_icmp .ne 7, 3) := by decide +kernel
theorem dL_isRemoved_148 : decode cL_isRemoved 148 = .ok (.iconst 1, 1) := by decide +kernel
theorem dL_isRemoved_149 : decode cL_isRemoved 149 = .ok (.goto 4, 3) := by decide +kernel
theorem dL_isRemoved_152 : decode cL_isRemoved 152 = .ok (.iconst 0, 1) := by decide +kernel
theorem dL_isRemoved_153 : decode cL_isRemoved 153 = .ok (.ireturn, 1) := by decide +kernel
theorem dL_isTarget_0 : decode cL_isTarget 0 = .ok (.aload_n 1, 1) := by decide +kernel
theorem dL_isTarget_1 : decode cL_isTarget 1 = .ok (.iconst 4, 1) := by decide +kernel
theorem dL_isTarget_2 : decode cL_isTarget 2 = .ok (.iaload, 1) := by decide +kernel
theorem dL_isTarget_3 : decode cL_isTarget 3 = .ok (.ifCond .eq 21, 3) := by decide +kernel
theorem dL_isTarget_6 : decode cL_isTarget 6 = .ok (.aload_n 1, 1) := by decide +kernel
theorem dL_isTarget_7 : decode cL_isTarget 7 = .ok (.iconst 5, 1) := by decide +kernel
theorem dL_isTarget_8 : decode cL_isTarget 8 = .ok (.iaload, 1) := by decide +kernel
theorem dL_isTarget_9 : decode cL_isTarget 9 = .ok (.aload_n 1, 1) := by decide +kernel
theorem dL_isTarget_10 : decode cL_isTarget 10 = .ok (.iconst 0, 1) := by decide +kernel
theorem dL_isTarget_11 : decode cL_isTarget 11 = .ok (.iaload, 1) := by decide +kernel
theorem dL_isTarget_12 : decode cL_isTarget 12 = .ok (.if_icmp .ne 12, 3) := by decide +kernel
theorem dL_isTarget_15 : decode cL_isTarget 15 = .ok (.aload_n 1, 1) := by decide +kernel
theorem dL_isTarget_16 : decode cL_isTarget 16 = .ok (.bipush 6, 2) := by decide +kernel
theorem dL_isTarget_18 : decode cL_isTarget 18 = .ok (.iaload, 1) := by decide +kernel
theorem dL_isTarget_19 : decode cL_isTarget 19 = .ok (.bipush 28, 2) := by decide +kernel
theorem dL_isTarget_21 : decode cL_isTarget 21 = .ok (.if_icmp .ne 19, 3) := by decide +kernel
theorem dL_isTarget_24 : decode cL_isTarget 24 = .ok (.aload_n 0, 1) := by decide +kernel
theorem dL_isTarget_25 : decode cL_isTarget 25 = .ok (.iload_n 2, 1) := by decide +kernel
theorem dL_isTarget_26 : decode cL_isTarget 26 = .ok (.invokestatic 221, 3) := by decide +kernel
theorem dL_isTarget_29 : decode cL_isTarget 29 = .ok (.ldc 20, 2) := by decide +kernel
theorem dL_isTarget_31 : decode cL_isTarget 31 = .ok (.if_icmp .ne 7, 3) := by decide +kernel
theorem dL_isTarget_34 : decode cL_isTarget 34 = .ok (.iconst 1, 1) := by decide +kernel
theorem dL_isTarget_35 : decode cL_isTarget 35 = .ok (.goto 4, 3) := by decide +kernel
theorem dL_isTarget_38 : decode cL_isTarget 38 = .ok (.iconst 0, 1) := by decide +kernel
theorem dL_isTarget_39 : decode cL_isTarget 39 = .ok (.ireturn, 1) := by decide +kernel
theorem dL_isTarget_40 : decode cL_isTarget 40 = .ok (.aload_n 1, 1) := by decide +kernel
theorem dL_isTarget_41 : decode cL_isTarget 41 = .ok (.bipush 60, 2) := by decide +kernel
theorem dL_isTarget_43 : decode cL_isTarget 43 = .ok (.aload_n 1, 1) := by decide +kernel
theorem dL_isTarget_44 : decode cL_isTarget 44 = .ok (.bipush 6, 2) := by decide +kernel
theorem dL_isTarget_46 : decode cL_isTarget 46 = .ok (.iaload, 1) := by decide +kernel
theorem dL_isTarget_47 : decode cL_isTarget 47 = .ok (.iadd, 1) := by decide +kernel
theorem dL_isTarget_48 : decode cL_isTarget 48 = .ok (.iload_n 2, 1) := by decide +kernel
theorem dL_isTarget_49 : decode cL_isTarget 49 = .ok (.iastore, 1) := by decide +kernel
theorem dL_isTarget_50 : decode cL_isTarget 50 = .ok (.aload_n 1, 1) := by decide +kernel
theorem dL_isTarget_51 : decode cL_isTarget 51 = .ok (.bipush 6, 2) := by decide +kernel
theorem dL_isTarget_53 : decode cL_isTarget 53 = .ok (.dup2, 1) := by decide +kernel
theorem dL_isTarget_54 : decode cL_isTarget 54 = .ok (.iaload, 1) := by decide +kernel
theorem dL_isTarget_55 : decode cL_isTarget 55 = .ok (.iconst 1, 1) := by decide +kernel
theorem dL_isTarget_56 : decode cL_isTarget 56 = .ok (.iadd, 1) := by decide +kernel
theorem dL_isTarget_57 : decode cL_isTarget 57 = .ok (.iastore, 1) := by decide +kernel
theorem dL_isTarget_58 : decode cL_isTarget 58 = .ok (.aload_n 1, 1) := by decide +kernel
theorem dL_isTarget_59 : decode cL_isTarget 59 = .ok (.sipush 899, 3) := by decide +kernel
theorem dL_isTarget_62 : decode cL_isTarget 62 = .ok (.iconst 1, 1) := by decide +kernel
theorem dL_isTarget_63 : decode cL_isTarget 63 = .ok (.iastore, 1) := by decide +kernel
theorem dL_isTarget_64 : decode cL_isTarget 64 = .ok (.aload_n 0, 1) := by decide +kernel
theorem dL_isTarget_65 : decode cL_isTarget 65 = .ok (.iload_n 2, 1) := by decide +kernel
theorem dL_isTarget_66 : decode cL_isTarget 66 = .ok (.invokestatic 221, 3) := by decide +kernel
theorem dL_isTarget_69 : decode cL_isTarget 69 = .ok (.aload_n 1, 1) := by decide +kernel
theorem dL_isTarget_70 : decode cL_isTarget 70 = .ok (.bipush 6, 2) := by decide +kernel
theorem dL_isTarget_72 : decode cL_isTarget 72 = .ok (.iaload, 1) := by decide +kernel
theorem dL_isTarget_73 : decode cL_isTarget 73 = .ok (.if_icmp .ne 7, 3) := by decide +kernel
theorem dL_isTarget_76 : decode cL_isTarget 76 = .ok (.iconst 1, 1) := by decide +kernel
theorem dL_isTarget_77 : decode cL_isTarget 77 = .ok (.goto 4, 3) := by decide +kernel
theorem dL_isTarget_80 : decode cL_isTarget 80 = .ok (.iconst 0, 1) := by decide +kernel
theorem dL_isTarget_81 : decode cL_isTarget 81 = .ok (.ireturn, 1) := by decide +kernel
theorem dL_areSessions_0 : decode cL_areSessions 0 = .ok (.iconst 0, 1) := by decide +kernel
theorem dL_areSessions_1 : decode cL_areSessions 1 = .ok (.istore_n 2, 1) := by decide +kernel
theorem dL_areSessions_2 : decode cL_areSessions 2 = .ok (.iconst 0, 1) := by decide +kernel
theorem dL_areSessions_3 : decode cL_areSessions 3 = .ok (.istore_n 3, 1) := by decide +kernel
theorem dL_areSessions_4 : decode cL_areSessions 4 = .ok (.iload_n 3, 1) := by decide +kernel
theorem dL_areSessions_5 : decode cL_areSessions 5 = .ok (.aload_n 1, 1) := by decide +kernel
theorem dL_areSessions_6 : decode cL_areSessions 6 = .ok (.iconst 2, 1) := by decide +kernel
theorem dL_areSessions_7 : decode cL_areSessions 7 = .ok (.iaload, 1) := by decide +kernel
theorem dL_areSessions_8 : decode cL_areSessions 8 = .ok (.if_icmp .ge 154, 3) := by decide +kernel
theorem dL_areSessions_11 : decode cL_areSessions 11 = .ok (.aload_n 1, 1) := by decide +kernel
theorem dL_areSessions_12 : decode cL_areSessions 12 = .ok (.bipush 100, 2) := by decide +kernel
theorem dL_areSessions_14 : decode cL_areSessions 14 = .ok (.bipush 20, 2) := by decide +kernel
theorem dL_areSessions_16 : decode cL_areSessions 16 = .ok (.iload_n 3, 1) := by decide +kernel
theorem dL_areSessions_17 : decode cL_areSessions 17 = .ok (.imul, 1) := by decide +kernel
theorem dL_areSessions_18 : decode cL_areSessions 18 = .ok (.iadd, 1) := by decide +kernel
theorem dL_areSessions_19 : decode cL_areSessions 19 = .ok (.iaload, 1) := by decide +kernel
theorem dL_areSessions_20 : decode cL_areSessions 20 = .ok (.istore 4, 2) := by decide +kernel
theorem dL_areSessions_22 : decode cL_areSessions 22 = .ok (.iload_n 2, 1) := by decide +kernel
theorem dL_areSessions_23 : decode cL_areSessions 23 = .ok (.aload_n 1, 1) := by decide +kernel
theorem dL_areSessions_24 : decode cL_areSessions 24 = .ok (.iload_n 3, 1) := by decide +kernel
theorem dL_areSessions_25 : decode cL_areSessions 25 = .ok (.iconst 0, 1) := by decide +kernel
theorem dL_areSessions_26 : decode cL_areSessions 26 = .ok (.invokestatic 212, 3) := by decide +kernel
theorem dL_areSessions_29 : decode cL_areSessions 29 = .ok (.iadd, 1) := by decide +kernel
theorem dL_areSessions_30 : decode cL_areSessions 30 = .ok (.istore_n 2, 1) := by decide +kernel
theorem dL_areSessions_31 : decode cL_areSessions 31 = .ok (.aload_n 0, 1) := by decide +kernel
theorem dL_areSessions_32 : decode cL_areSessions 32 = .ok (.iload 4, 2) := by decide +kernel
theorem dL_areSessions_34 : decode cL_areSessions 34 = .ok (.invokestatic 223, 3) := by decide +kernel
theorem dL_areSessions_37 : decode cL_areSessions 37 = .ok (.aload_n 1, 1) := by decide +kernel
theorem dL_areSessions_38 : decode cL_areSessions 38 = .ok (.bipush 101, 2) := by decide +kernel
theorem dL_areSessions_40 : decode cL_areSessions 40 = .ok (.bipush 20, 2) := by decide +kernel
theorem dL_areSessions_42 : decode cL_areSessions 42 = .ok (.iload_n 3, 1) := by decide +kernel
theorem dL_areSessions_43 : decode cL_areSessions 43 = .ok (.imul, 1) := by decide +kernel
theorem dL_areSessions_44 : decode cL_areSessions 44 = .ok (.iadd, 1) := by decide +kernel
theorem dL_areSessions_45 : decode cL_areSessions 45 = .ok (.iaload, 1) := by decide +kernel
theorem dL_areSessions_46 : decode cL_areSessions 46 = .ok (.if_icmp .ne 57, 3) := by decide +kernel
theorem dL_areSessions_49 : decode cL_areSessions 49 = .ok (.aload_n 0, 1) := by decide +kernel
theorem dL_areSessions_50 : decode cL_areSessions 50 = .ok (.iload 4, 2) := by decide +kernel
theorem dL_areSessions_52 : decode cL_areSessions 52 = .ok (.invokestatic 225, 3) := by decide +kernel
theorem dL_areSessions_55 : decode cL_areSessions 55 = .ok (.aload_n 1, 1) := by decide +kernel
theorem dL_areSessions_56 : decode cL_areSessions 56 = .ok (.iload_n 3, 1) := by decide +kernel
theorem dL_areSessions_57 : decode cL_areSessions 57 = .ok (.iconst 0, 1) := by decide +kernel
theorem dL_areSessions_58 : decode cL_areSessions 58 = .ok (.invokestatic 212, 3) := by decide +kernel
theorem dL_areSessions_61 : decode cL_areSessions 61 = .ok (.if_icmp .ne 42, 3) := by decide +kernel
theorem dL_areSessions_64 : decode cL_areSessions 64 = .ok (.aload_n 0, 1) := by decide +kernel
theorem dL_areSessions_65 : decode cL_areSessions 65 = .ok (.iload 4, 2) := by decide +kernel
theorem dL_areSessions_67 : decode cL_areSessions 67 = .ok (.invokestatic 227, 3) := by decide +kernel
theorem dL_areSessions_70 : decode cL_areSessions 70 = .ok (.aload_n 1, 1) := by decide +kernel
theorem dL_areSessions_71 : decode cL_areSessions 71 = .ok (.iload_n 3, 1) := by decide +kernel
theorem dL_areSessions_72 : decode cL_areSessions 72 = .ok (.invokestatic 133, 3) := by decide +kernel
theorem dL_areSessions_75 : decode cL_areSessions 75 = .ok (.if_icmp .ne 28, 3) := by decide +kernel
theorem dL_areSessions_78 : decode cL_areSessions 78 = .ok (.aload_n 0, 1) := by decide +kernel
theorem dL_areSessions_79 : decode cL_areSessions 79 = .ok (.iload_n 3, 1) := by decide +kernel
theorem dL_areSessions_80 : decode cL_areSessions 80 = .ok (.invokestatic 229, 3) := by decide +kernel
theorem dL_areSessions_83 : decode cL_areSessions 83 = .ok (.aload_n 1, 1) := by decide +kernel
theorem dL_areSessions_84 : decode cL_areSessions 84 = .ok (.bipush 100, 2) := by decide +kernel
theorem dL_areSessions_86 : decode cL_areSessions 86 = .ok (.bipush 20, 2) := by decide +kernel
theorem dL_areSessions_88 : decode cL_areSessions 88 = .ok (.aload_n 1, 1) := by decide +kernel
theorem dL_areSessions_89 : decode cL_areSessions 89 = .ok (.iload_n 3, 1) := by decide +kernel
theorem dL_areSessions_90 : decode cL_areSessions 90 = .ok (.invokestatic 231, 3) := by decide +kernel
theorem dL_areSessions_93 : decode cL_areSessions 93 = .ok (.imul, 1) := by decide +kernel
theorem dL_areSessions_94 : decode cL_areSessions 94 = .ok (.iadd, 1) := by decide +kernel
theorem dL_areSessions_95 : decode cL_areSessions 95 = .ok (.iaload, 1) := by decide +kernel
theorem dL_areSessions_96 : decode cL_areSessions 96 = .ok (.if_icmp .ne 7, 3) := by decide +kernel
theorem dL_areSessions_99 : decode cL_areSessions 99 = .ok (.iconst 1, 1) := by decide +kernel
theorem dL_areSessions_100 : decode cL_areSessions 100 = .ok (.goto 4, 3) := by decide +kernel
theorem dL_areSessions_103 : decode cL_areSessions 103 = .ok (.iconst 0, 1) := by decide +kernel
theorem dL_areSessions_104 : decode cL_areSessions 104 = .ok (.istore 5, 2) := by decide +kernel
theorem dL_areSessions_106 : decode cL_areSessions 106 = .ok (.iconst 1, 1) := by decide +kernel
theorem dL_areSessions_107 : decode cL_areSessions 107 = .ok (.istore 6, 2) := by decide +kernel
theorem dL_areSessions_109 : decode cL_areSessions 109 = .ok (.iload 6, 2) := by decide +kernel
theorem dL_areSessions_111 : decode cL_areSessions 111 = .ok (.iconst 5, 1) := by decide +kernel
theorem dL_areSessions_112 : decode cL_areSessions 112 = .ok (.if_icmp .gt 37, 3) := by decide +kernel
theorem dL_areSessions_115 : decode cL_areSessions 115 = .ok (.iload 5, 2) := by decide +kernel
theorem dL_areSessions_117 : decode cL_areSessions 117 = .ok (.aload_n 0, 1) := by decide +kernel
theorem dL_areSessions_118 : decode cL_areSessions 118 = .ok (.iload 4, 2) := by decide +kernel
theorem dL_areSessions_120 : decode cL_areSessions 120 = .ok (.iload 6, 2) := by decide +kernel
theorem dL_areSessions_122 : decode cL_areSessions 122 = .ok (.invokestatic 234, 3) := by decide +kernel
theorem dL_areSessions_125 : decode cL_areSessions 125 = .ok (.aload_n 1, 1) := by decide +kernel
theorem dL_areSessions_126 : decode cL_areSessions 126 = .ok (.iload_n 3, 1) := by decide +kernel
theorem dL_areSessions_127 : decode cL_areSessions 127 = .ok (.iload 6, 2) := by decide +kernel
theorem dL_areSessions_129 : decode cL_areSessions 129 = .ok (.invokestatic 212, 3) := by decide +kernel
theorem dL_areSessions_132 : decode cL_areSessions 132 = .ok (.if_icmp .ne 7, 3) := by decide +kernel
theorem dL_areSessions_135 : decode cL_areSessions 135 = .ok (.iconst 1, 1) := by decide +kernel
theorem dL_areSessions_136 : decode cL_areSessions 136 = .ok (.goto 4, 3) := by decide +kernel
theorem dL_areSessions_139 : decode cL_areSessions 139 = .ok (.iconst 0, 1) := by decide +kernel
theorem dL_areSessions_140 : decode cL_areSessions 140 = .ok (.iand, 1) := by decide +kernel
theorem dL_areSessions_141 : decode cL_areSessions 141 = .ok (.istore 5, 2) := by decide +kernel
theorem dL_areSessions_143 : decode cL_areSessions 143 = .ok (.iinc 6 1, 3) := by decide +kernel
theorem dL_areSessions_146 : decode cL_areSessions 146 = .ok (.goto (-37), 3) := by decide +kernel
theorem dL_areSessions_149 : decode cL_areSessions 149 = .ok (.iload 5, 2) := by decide +kernel
theorem dL_areSessions_151 : decode cL_areSessions 151 = .ok (.ifCond .ne 5, 3) := by decide +kernel
theorem dL_areSessions_154 : decode cL_areSessions 154 = .ok (.iconst 0, 1) := by decide +kernel
theorem dL_areSessions_155 : decode cL_areSessions 155 = .ok (.ireturn, 1) := by decide +kernel
theorem dL_areSessions_156 : decode cL_areSessions 156 = .ok (.iinc 3 1, 3) := by decide +kernel
theorem dL_areSessions_159 : decode cL_areSessions 159 = .ok (.goto (-155), 3) := by decide +kernel
theorem dL_areSessions_162 : decode cL_areSessions 162 = .ok (.iconst 1, 1) := by decide +kernel
theorem dL_areSessions_163 : decode cL_areSessions 163 = .ok (.istore_n 3, 1) := by decide +kernel
theorem dL_areSessions_164 : decode cL_areSessions 164 = .ok (.iload_n 3, 1) := by decide +kernel
theorem dL_areSessions_165 : decode cL_areSessions 165 = .ok (.iconst 5, 1) := by decide +kernel
theorem dL_areSessions_166 : decode cL_areSessions 166 = .ok (.if_icmp .gt 100, 3) := by decide +kernel
theorem dL_areSessions_169 : decode cL_areSessions 169 = .ok (.iconst 0, 1) := by decide +kernel
theorem dL_areSessions_170 : decode cL_areSessions 170 = .ok (.istore 4, 2) := by decide +kernel
theorem dL_areSessions_172 : decode cL_areSessions 172 = .ok (.iconst 0, 1) := by decide +kernel
theorem dL_areSessions_173 : decode cL_areSessions 173 = .ok (.istore 5, 2) := by decide +kernel
theorem dL_areSessions_175 : decode cL_areSessions 175 = .ok (.iload 5, 2) := by decide +kernel
theorem dL_areSessions_177 : decode cL_areSessions 177 = .ok (.aload_n 1, 1) := by decide +kernel
theorem dL_areSessions_178 : decode cL_areSessions 178 = .ok (.iconst 2, 1) := by decide +kernel
theorem dL_areSessions_179 : decode cL_areSessions 179 = .ok (.iaload, 1) := by decide +kernel
theorem dL_areSessions_180 : decode cL_areSessions 180 = .ok (.if_icmp .ge 21, 3) := by decide +kernel
theorem dL_areSessions_183 : decode cL_areSessions 183 = .ok (.iload 4, 2) := by decide +kernel
theorem dL_areSessions_185 : decode cL_areSessions 185 = .ok (.aload_n 1, 1) := by decide +kernel
theorem dL_areSessions_186 : decode cL_areSessions 186 = .ok (.iload 5, 2) := by decide +kernel
theorem dL_areSessions_188 : decode cL_areSessions 188 = .ok (.iload_n 3, 1) := by decide +kernel
theorem dL_areSessions_189 : decode cL_areSessions 189 = .ok (.invokestatic 212, 3) := by decide +kernel
theorem dL_areSessions_192 : decode cL_areSessions 192 = .ok (.iadd, 1) := by decide +kernel
theorem dL_areSessions_193 : decode cL_areSessions 193 = .ok (.istore 4, 2) := by decide +kernel
theorem dL_areSessions_195 : decode cL_areSessions 195 = .ok (.iinc 5 1, 3) := by decide +kernel
theorem dL_areSessions_198 : decode cL_areSessions 198 = .ok (.goto (-23), 3) := by decide +kernel
theorem dL_areSessions_201 : decode cL_areSessions 201 = .ok (.aload_n 0, 1) := by decide +kernel
theorem dL_areSessions_202 : decode cL_areSessions 202 = .ok (.iload_n 3, 1) := by decide +kernel
theorem dL_areSessions_203 : decode cL_areSessions 203 = .ok (.invokestatic 236, 3) := by decide +kernel
theorem dL_areSessions_206 : decode cL_areSessions 206 = .ok (.aload_n 1, 1) := by decide +kernel
theorem dL_areSessions_207 : decode cL_areSessions 207 = .ok (.bipush 30, 2) := by decide +kernel
theorem dL_areSessions_209 : decode cL_areSessions 209 = .ok (.iload_n 3, 1) := by decide +kernel
theorem dL_areSessions_210 : decode cL_areSessions 210 = .ok (.iadd, 1) := by decide +kernel
theorem dL_areSessions_211 : decode cL_areSessions 211 = .ok (.iaload, 1) := by decide +kernel
theorem dL_areSessions_212 : decode cL_areSessions 212 = .ok (.if_icmp .ne 46, 3) := by decide +kernel
theorem dL_areSessions_215 : decode cL_areSessions 215 = .ok (.iload_n 3, 1) := by decide +kernel
theorem dL_areSessions_216 : decode cL_areSessions 216 = .ok (.iconst 1, 1) := by decide +kernel
theorem dL_areSessions_217 : decode cL_areSessions 217 = .ok (.if_icmp .le 17, 3) := by decide +kernel
theorem dL_areSessions_220 : decode cL_areSessions 220 = .ok (.aload_n 0, 1) := by decide +kernel
theorem dL_areSessions_221 : decode cL_areSessions 221 = .ok (.iload_n 3, 1) := by decide +kernel
theorem dL_areSessions_222 : decode cL_areSessions 222 = .ok (.invokestatic 238, 3) := by decide +kernel
theorem dL_areSessions_225 : decode cL_areSessions 225 = .ok (.aload_n 1, 1) := by decide +kernel
theorem dL_areSessions_226 : decode cL_areSessions 226 = .ok (.bipush 20, 2) := by decide +kernel
theorem dL_areSessions_228 : decode cL_areSessions 228 = .ok (.iload_n 3, 1) := by decide +kernel
theorem dL_areSessions_229 : decode cL_areSessions 229 = .ok (.iadd, 1) := by decide +kernel
theorem dL_areSessions_230 : decode cL_areSessions 230 = .ok (.iaload, 1) := by decide +kernel
theorem dL_areSessions_231 : decode cL_areSessions 231 = .ok (.if_icmp .ne 27, 3) := by decide +kernel
theorem dL_areSessions_234 : decode cL_areSessions 234 = .ok (.aload_n 0, 1) := by decide +kernel
theorem dL_areSessions_235 : decode cL_areSessions 235 = .ok (.iload_n 3, 1) := by decide +kernel
theorem dL_areSessions_236 : decode cL_areSessions 236 = .ok (.invokestatic 240, 3) := by decide +kernel
theorem dL_areSessions_239 : decode cL_areSessions 239 = .ok (.iload_n 2, 1) := by decide +kernel
theorem dL_areSessions_240 : decode cL_areSessions 240 = .ok (.ifCond .ne 8, 3) := by decide +kernel
theorem dL_areSessions_243 : decode cL_areSessions 243 = .ok (.ldc 92, 2) := by decide +kernel
theorem dL_areSessions_245 : decode cL_areSessions 245 = .ok (.goto 9, 3) := by decide +kernel
theorem dL_areSessions_248 : decode cL_areSessions 248 = .ok (.iload 4, 2) := by decide +kernel
theorem dL_areSessions_250 : decode cL_areSessions 250 = .ok (.i2f, 1) := by decide +kernel
