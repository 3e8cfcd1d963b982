theorem dX9_bestDays_12 : decode cX9_bestDays 12 = .ok (.iload_n 2, 1) := by decide +kernel
theorem dX9_bestDays_13 : decode cX9_bestDays 13 = .ok (.iload_n 1, 1) := by decide +kernel
theorem dX9_bestDays_14 : decode cX9_bestDays 14 = .ok (.invokevirtual 231, 3) := by decide +kernel
theorem dX9_bestDays_17 : decode cX9_bestDays 17 = .ok (.ireturn, 1) := by decide +kernel
theorem dX9_bestDaysByTrying_0 : decode cX9_bestDaysByTrying 0 = .ok (.aload_n 0, 1) := by decide +kernel
theorem dX9_bestDaysByTrying_1 : decode cX9_bestDaysByTrying 1 = .ok (.iload_n 1, 1) := by decide +kernel
theorem dX9_bestDaysByTrying_2 : decode cX9_bestDaysByTrying 2 = .ok (.invokevirtual 259, 3) := by decide +kernel
theorem dX9_bestDaysByTrying_5 : decode cX9_bestDaysByTrying 5 = .ok (.aload_n 0, 1) := by decide +kernel
theorem dX9_bestDaysByTrying_6 : decode cX9_bestDaysByTrying 6 = .ok (.getfield 12, 3) := by decide +kernel
theorem dX9_bestDaysByTrying_9 : decode cX9_bestDaysByTrying 9 = .ok (.aload_n 0, 1) := by decide +kernel
theorem dX9_bestDaysByTrying_10 : decode cX9_bestDaysByTrying 10 = .ok (.getfield 52, 3) := by decide +kernel
theorem dX9_bestDaysByTrying_13 : decode cX9_bestDaysByTrying 13 = .ok (.invokevirtual 223, 3) := by decide +kernel
theorem dX9_bestDaysByTrying_16 : decode cX9_bestDaysByTrying 16 = .ok (.iconst 0, 1) := by decide +kernel
theorem dX9_bestDaysByTrying_17 : decode cX9_bestDaysByTrying 17 = .ok (.istore_n 2, 1) := by decide +kernel
theorem dX9_bestDaysByTrying_18 : decode cX9_bestDaysByTrying 18 = .ok (.iconst 0, 1) := by decide +kernel
theorem dX9_bestDaysByTrying_19 : decode cX9_bestDaysByTrying 19 = .ok (.istore_n 3, 1) := by decide +kernel
theorem dX9_bestDaysByTrying_20 : decode cX9_bestDaysByTrying 20 = .ok (.iload_n 3, 1) := by decide +kernel
theorem dX9_bestDaysByTrying_21 : decode cX9_bestDaysByTrying 21 = .ok (.iload_n 1, 1) := by decide +kernel
theorem dX9_bestDaysByTrying_22 : decode cX9_bestDaysByTrying 22 = .ok (.iadd, 1) := by decide +kernel
theorem dX9_bestDaysByTrying_23 : decode cX9_bestDaysByTrying 23 = .ok (.aload_n 0, 1) := by decide +kernel
theorem dX9_bestDaysByTrying_24 : decode cX9_bestDaysByTrying 24 = .ok (.getfield 12, 3) := by decide +kernel
theorem dX9_bestDaysByTrying_27 : decode cX9_bestDaysByTrying 27 = .ok (.getfield 69, 3) := by decide +kernel
theorem dX9_bestDaysByTrying_30 : decode cX9_bestDaysByTrying 30 = .ok (.iconst 1, 1) := by decide +kernel
theorem dX9_bestDaysByTrying_31 : decode cX9_bestDaysByTrying 31 = .ok (.iadd, 1) := by decide +kernel
theorem dX9_bestDaysByTrying_32 : decode cX9_bestDaysByTrying 32 = .ok (.if_icmp .gt 20, 3) := by decide +kernel
theorem dX9_bestDaysByTrying_35 : decode cX9_bestDaysByTrying 35 = .ok (.iload_n 2, 1) := by decide +kernel
theorem dX9_bestDaysByTrying_36 : decode cX9_bestDaysByTrying 36 = .ok (.aload_n 0, 1) := by decide +kernel
theorem dX9_bestDaysByTrying_37 : decode cX9_bestDaysByTrying 37 = .ok (.iload_n 3, 1) := by decide +kernel
theorem dX9_bestDaysByTrying_38 : decode cX9_bestDaysByTrying 38 = .ok (.iload_n 1, 1) := by decide +kernel
theorem dX9_bestDaysByTrying_39 : decode cX9_bestDaysByTrying 39 = .ok (.invokevirtual 231, 3) := by decide +kernel
theorem dX9_bestDaysByTrying_42 : decode cX9_bestDaysByTrying 42 = .ok (.invokestatic 265, 3) := by decide +kernel
theorem dX9_bestDaysByTrying_45 : decode cX9_bestDaysByTrying 45 = .ok (.istore_n 2, 1) := by decide +kernel
theorem dX9_bestDaysByTrying_46 : decode cX9_bestDaysByTrying 46 = .ok (.iinc 3 1, 3) := by decide +kernel
theorem dX9_bestDaysByTrying_49 : decode cX9_bestDaysByTrying 49 = .ok (.goto (-29), 3) := by decide +kernel
theorem dX9_bestDaysByTrying_52 : decode cX9_bestDaysByTrying 52 = .ok (.iload_n 2, 1) := by decide +kernel
theorem dX9_bestDaysByTrying_53 : decode cX9_bestDaysByTrying 53 = .ok (.ireturn, 1) := by decide +kernel
theorem dX9_bestDaysStart_0 : decode cX9_bestDaysStart 0 = .ok (.aload_n 0, 1) := by decide +kernel
theorem dX9_bestDaysStart_1 : decode cX9_bestDaysStart 1 = .ok (.iload_n 1, 1) := by decide +kernel
theorem dX9_bestDaysStart_2 : decode cX9_bestDaysStart 2 = .ok (.invokevirtual 259, 3) := by decide +kernel
theorem dX9_bestDaysStart_5 : decode cX9_bestDaysStart 5 = .ok (.aload_n 0, 1) := by decide +kernel
theorem dX9_bestDaysStart_6 : decode cX9_bestDaysStart 6 = .ok (.iload_n 1, 1) := by decide +kernel
theorem dX9_bestDaysStart_7 : decode cX9_bestDaysStart 7 = .ok (.invokevirtual 262, 3) := by decide +kernel
theorem dX9_bestDaysStart_10 : decode cX9_bestDaysStart 10 = .ok (.ireturn, 1) := by decide +kernel
theorem dX9_bestEffort_0 : decode cX9_bestEffort 0 = .ok (.aload_n 0, 1) := by decide +kernel
theorem dX9_bestEffort_1 : decode cX9_bestEffort 1 = .ok (.iload_n 1, 1) := by decide +kernel
theorem dX9_bestEffort_2 : decode cX9_bestEffort 2 = .ok (.invokevirtual 268, 3) := by decide +kernel
theorem dX9_bestEffort_5 : decode cX9_bestEffort 5 = .ok (.istore_n 2, 1) := by decide +kernel
theorem dX9_bestEffort_6 : decode cX9_bestEffort 6 = .ok (.aload_n 0, 1) := by decide +kernel
theorem dX9_bestEffort_7 : decode cX9_bestEffort 7 = .ok (.aload_n 0, 1) := by decide +kernel
theorem dX9_bestEffort_8 : decode cX9_bestEffort 8 = .ok (.getfield 12, 3) := by decide +kernel
theorem dX9_bestEffort_11 : decode cX9_bestEffort 11 = .ok (.getfield 156, 3) := by decide +kernel
theorem dX9_bestEffort_14 : decode cX9_bestEffort 14 = .ok (.getfield 205, 3) := by decide +kernel
theorem dX9_bestEffort_17 : decode cX9_bestEffort 17 = .ok (.iload_n 2, 1) := by decide +kernel
theorem dX9_bestEffort_18 : decode cX9_bestEffort 18 = .ok (.aaload, 1) := by decide +kernel
theorem dX9_bestEffort_19 : decode cX9_bestEffort 19 = .ok (.iload_n 1, 1) := by decide +kernel
theorem dX9_bestEffort_20 : decode cX9_bestEffort 20 = .ok (.invokevirtual 271, 3) := by decide +kernel
theorem dX9_bestEffort_23 : decode cX9_bestEffort 23 = .ok (.ireturn, 1) := by decide +kernel
theorem dX9_bestEffortByTrying_0 : decode cX9_bestEffortByTrying 0 = .ok (.aload_n 0, 1) := by decide +kernel
theorem dX9_bestEffortByTrying_1 : decode cX9_bestEffortByTrying 1 = .ok (.iload_n 1, 1) := by decide +kernel
theorem dX9_bestEffortByTrying_2 : decode cX9_bestEffortByTrying 2 = .ok (.invokevirtual 275, 3) := by decide +kernel
theorem dX9_bestEffortByTrying_5 : decode cX9_bestEffortByTrying 5 = .ok (.iconst 0, 1) := by decide +kernel
theorem dX9_bestEffortByTrying_6 : decode cX9_bestEffortByTrying 6 = .ok (.istore_n 2, 1) := by decide +kernel
theorem dX9_bestEffortByTrying_7 : decode cX9_bestEffortByTrying 7 = .ok (.iconst 0, 1) := by decide +kernel
theorem dX9_bestEffortByTrying_8 : decode cX9_bestEffortByTrying 8 = .ok (.istore_n 3, 1) := by decide +kernel
theorem dX9_bestEffortByTrying_9 : decode cX9_bestEffortByTrying 9 = .ok (.iload_n 3, 1) := by decide +kernel
theorem dX9_bestEffortByTrying_10 : decode cX9_bestEffortByTrying 10 = .ok (.aload_n 0, 1) := by decide +kernel
theorem dX9_bestEffortByTrying_11 : decode cX9_bestEffortByTrying 11 = .ok (.getfield 12, 3) := by decide +kernel
theorem dX9_bestEffortByTrying_14 : decode cX9_bestEffortByTrying 14 = .ok (.getfield 156, 3) := by decide +kernel
theorem dX9_bestEffortByTrying_17 : decode cX9_bestEffortByTrying 17 = .ok (.getfield 160, 3) := by decide +kernel
theorem dX9_bestEffortByTrying_20 : decode cX9_bestEffortByTrying 20 = .ok (.if_icmp .ge 31, 3) := by decide +kernel
theorem dX9_bestEffortByTrying_23 : decode cX9_bestEffortByTrying 23 = .ok (.iload_n 2, 1) := by decide +kernel
theorem dX9_bestEffortByTrying_24 : decode cX9_bestEffortByTrying 24 = .ok (.aload_n 0, 1) := by decide +kernel
theorem dX9_bestEffortByTrying_25 : decode cX9_bestEffortByTrying 25 = .ok (.aload_n 0, 1) := by decide +kernel
theorem dX9_bestEffortByTrying_26 : decode cX9_bestEffortByTrying 26 = .ok (.getfield 12, 3) := by decide +kernel
theorem dX9_bestEffortByTrying_29 : decode cX9_bestEffortByTrying 29 = .ok (.getfield 156, 3) := by decide +kernel
theorem dX9_bestEffortByTrying_32 : decode cX9_bestEffortByTrying 32 = .ok (.getfield 205, 3) := by decide +kernel
theorem dX9_bestEffortByTrying_35 : decode cX9_bestEffortByTrying 35 = .ok (.iload_n 3, 1) := by decide +kernel
theorem dX9_bestEffortByTrying_36 : decode cX9_bestEffortByTrying 36 = .ok (.aaload, 1) := by decide +kernel
theorem dX9_bestEffortByTrying_37 : decode cX9_bestEffortByTrying 37 = .ok (.iload_n 1, 1) := by decide +kernel
theorem dX9_bestEffortByTrying_38 : decode cX9_bestEffortByTrying 38 = .ok (.invokevirtual 278, 3) := by decide +kernel
theorem dX9_bestEffortByTrying_41 : decode cX9_bestEffortByTrying 41 = .ok (.invokestatic 265, 3) := by decide +kernel
theorem dX9_bestEffortByTrying_44 : decode cX9_bestEffortByTrying 44 = .ok (.istore_n 2, 1) := by decide +kernel
theorem dX9_bestEffortByTrying_45 : decode cX9_bestEffortByTrying 45 = .ok (.iinc 3 1, 3) := by decide +kernel
theorem dX9_bestEffortByTrying_48 : decode cX9_bestEffortByTrying 48 = .ok (.goto (-39), 3) := by decide +kernel
theorem dX9_bestEffortByTrying_51 : decode cX9_bestEffortByTrying 51 = .ok (.iload_n 2, 1) := by decide +kernel
theorem dX9_bestEffortByTrying_52 : decode cX9_bestEffortByTrying 52 = .ok (.ireturn, 1) := by decide +kernel
theorem dX9_bestEffortSession_0 : decode cX9_bestEffortSession 0 = .ok (.aload_n 0, 1) := by decide +kernel
theorem dX9_bestEffortSession_1 : decode cX9_bestEffortSession 1 = .ok (.iload_n 1, 1) := by decide +kernel
theorem dX9_bestEffortSession_2 : decode cX9_bestEffortSession 2 = .ok (.invokevirtual 268, 3) := by decide +kernel
theorem dX9_bestEffortSession_5 : decode cX9_bestEffortSession 5 = .ok (.istore_n 2, 1) := by decide +kernel
theorem dX9_bestEffortSession_6 : decode cX9_bestEffortSession 6 = .ok (.aload_n 0, 1) := by decide +kernel
theorem dX9_bestEffortSession_7 : decode cX9_bestEffortSession 7 = .ok (.getfield 12, 3) := by decide +kernel
theorem dX9_bestEffortSession_10 : decode cX9_bestEffortSession 10 = .ok (.getfield 156, 3) := by decide +kernel
theorem dX9_bestEffortSession_13 : decode cX9_bestEffortSession 13 = .ok (.getfield 205, 3) := by decide +kernel
theorem dX9_bestEffortSession_16 : decode cX9_bestEffortSession 16 = .ok (.iload_n 2, 1) := by decide +kernel
theorem dX9_bestEffortSession_17 : decode cX9_bestEffortSession 17 = .ok (.aaload, 1) := by decide +kernel
theorem dX9_bestEffortSession_18 : decode cX9_bestEffortSession 18 = .ok (.getfield 209, 3) := by decide +kernel
theorem dX9_bestEffortSession_21 : decode cX9_bestEffortSession 21 = .ok (.ireturn, 1) := by decide +kernel
theorem dX9_startPlan_0 : decode cX9_startPlan 0 = .ok (.aload_n 0, 1) := by decide +kernel
theorem dX9_startPlan_1 : decode cX9_startPlan 1 = .ok (.getfield 19, 3) := by decide +kernel
theorem dX9_startPlan_4 : decode cX9_startPlan 4 = .ok (.aload_n 0, 1) := by decide +kernel
theorem dX9_startPlan_5 : decode cX9_startPlan 5 = .ok (.getfield 12, 3) := by decide +kernel
theorem dX9_startPlan_8 : decode cX9_startPlan 8 = .ok (.invokevirtual 79, 3) := by decide +kernel
theorem dX9_startPlan_11 : decode cX9_startPlan 11 = .ok (.aload_n 0, 1) := by decide +kernel
theorem dX9_startPlan_12 : decode cX9_startPlan 12 = .ok (.getfield 12, 3) := by decide +kernel
theorem dX9_startPlan_15 : decode cX9_startPlan 15 = .ok (.getfield 281, 3) := by decide +kernel
theorem dX9_startPlan_18 : decode cX9_startPlan 18 = .ok (.getfield 285, 3) := by decide +kernel
theorem dX9_startPlan_21 : decode cX9_startPlan 21 = .ok (.istore_n 1, 1) := by decide +kernel
theorem dX9_startPlan_22 : decode cX9_startPlan 22 = .ok (.aload_n 0, 1) := by decide +kernel
theorem dX9_startPlan_23 : decode cX9_startPlan 23 = .ok (.getfield 12, 3) := by decide +kernel
theorem dX9_startPlan_26 : decode cX9_startPlan 26 = .ok (.getfield 281, 3) := by decide +kernel
theorem dX9_startPlan_29 : decode cX9_startPlan 29 = .ok (.aload_n 0, 1) := by decide +kernel
theorem dX9_startPlan_30 : decode cX9_startPlan 30 = .ok (.getfield 12, 3) := by decide +kernel
theorem dX9_startPlan_33 : decode cX9_startPlan 33 = .ok (.getfield 69, 3) := by decide +kernel
theorem dX9_startPlan_36 : decode cX9_startPlan 36 = .ok (.invokevirtual 290, 3) := by decide +kernel
theorem dX9_startPlan_39 : decode cX9_startPlan 39 = .ok (.iload_n 1, 1) := by decide +kernel
theorem dX9_startPlan_40 : decode cX9_startPlan 40 = .ok (.ireturn, 1) := by decide +kernel
theorem dX9_addTarget_0 : decode cX9_addTarget 0 = .ok (.iload_n 1, 1) := by decide +kernel
theorem dX9_addTarget_1 : decode cX9_addTarget 1 = .ok (.iconst 0, 1) := by decide +kernel
theorem dX9_addTarget_2 : decode cX9_addTarget 2 = .ok (.sipush 20000, 3) := by decide +kernel
theorem dX9_addTarget_5 : decode cX9_addTarget 5 = .ok (.invokestatic 65, 3) := by decide +kernel
theorem dX9_addTarget_8 : decode cX9_addTarget 8 = .ok (.aload_n 0, 1) := by decide +kernel
theorem dX9_addTarget_9 : decode cX9_addTarget 9 = .ok (.getfield 12, 3) := by decide +kernel
theorem dX9_addTarget_12 : decode cX9_addTarget 12 = .ok (.getfield 281, 3) := by decide +kernel
theorem dX9_addTarget_15 : decode cX9_addTarget 15 = .ok (.astore_n 2, 1) := by decide +kernel
theorem dX9_addTarget_16 : decode cX9_addTarget 16 = .ok (.aload_n 2, 1) := by decide +kernel
theorem dX9_addTarget_17 : decode cX9_addTarget 17 = .ok (.getfield 293, 3) := by decide +kernel
theorem dX9_addTarget_20 : decode cX9_addTarget 20 = .ok (.ifCond .eq 26, 3) := by decide +kernel
theorem dX9_addTarget_23 : decode cX9_addTarget 23 = .ok (.aload_n 2, 1) := by decide +kernel
theorem dX9_addTarget_24 : decode cX9_addTarget 24 = .ok (.getfield 296, 3) := by decide +kernel
theorem dX9_addTarget_27 : decode cX9_addTarget 27 = .ok (.aload_n 0, 1) := by decide +kernel
theorem dX9_addTarget_28 : decode cX9_addTarget 28 = .ok (.getfield 12, 3) := by decide +kernel
theorem dX9_addTarget_31 : decode cX9_addTarget 31 = .ok (.getfield 69, 3) := by decide +kernel
theorem dX9_addTarget_34 : decode cX9_addTarget 34 = .ok (.if_icmp .ne 12, 3) := by decide +kernel
theorem dX9_addTarget_37 : decode cX9_addTarget 37 = .ok (.aload_n 2, 1) := by decide +kernel
theorem dX9_addTarget_38 : decode cX9_addTarget 38 = .ok (.getfield 285, 3) := by decide +kernel
theorem dX9_addTarget_41 : decode cX9_addTarget 41 = .ok (.bipush 28, 2) := by decide +kernel
theorem dX9_addTarget_43 : decode cX9_addTarget 43 = .ok (.if_icmp .lt 14, 3) := by decide +kernel
theorem dX9_addTarget_46 : decode cX9_addTarget 46 = .ok (.new 72, 3) := by decide +kernel
theorem dX9_addTarget_49 : decode cX9_addTarget 49 = .ok (.dup, 1) := by decide +kernel
theorem dX9_addTarget_50 : decode cX9_addTarget 50 = .ok (.ldc_w 299, 3) := by decide +kernel
theorem dX9_addTarget_53 : decode cX9_addTarget 53 = .ok (.invokespecial 76, 3) := by decide +kernel
theorem dX9_addTarget_56 : decode cX9_addTarget 56 = .ok (.athrow, 1) := by decide +kernel
theorem dX9_addTarget_57 : decode cX9_addTarget 57 = .ok (.aload_n 0, 1) := by decide +kernel
theorem dX9_addTarget_58 : decode cX9_addTarget 58 = .ok (.getfield 19, 3) := by decide +kernel
theorem dX9_addTarget_61 : decode cX9_addTarget 61 = .ok (.aload_n 0, 1) := by decide +kernel
theorem dX9_addTarget_62 : decode cX9_addTarget 62 = .ok (.getfield 12, 3) := by decide +kernel
theorem dX9_addTarget_65 : decode cX9_addTarget 65 = .ok (.invokevirtual 79, 3) := by decide +kernel
theorem dX9_addTarget_68 : decode cX9_addTarget 68 = .ok (.aload_n 2, 1) := by decide +kernel
theorem dX9_addTarget_69 : decode cX9_addTarget 69 = .ok (.iload_n 1, 1) := by decide +kernel
theorem dX9_addTarget_70 : decode cX9_addTarget 70 = .ok (.invokevirtual 301, 3) := by decide +kernel
theorem dX9_addTarget_73 : decode cX9_addTarget 73 = .ok (.aload_n 2, 1) := by decide +kernel
theorem dX9_addTarget_74 : decode cX9_addTarget 74 = .ok (.getfield 285, 3) := by decide +kernel
theorem dX9_addTarget_77 : decode cX9_addTarget 77 = .ok (.ireturn, 1) := by decide +kernel
theorem dX9_targetAt_0 : decode cX9_targetAt 0 = .ok (.iload_n 1, 1) := by decide +kernel
theorem dX9_targetAt_1 : decode cX9_targetAt 1 = .ok (.ifCond .lt 17, 3) := by decide +kernel
theorem dX9_targetAt_4 : decode cX9_targetAt 4 = .ok (.iload_n 1, 1) := by decide +kernel
theorem dX9_targetAt_5 : decode cX9_targetAt 5 = .ok (.aload_n 0, 1) := by decide +kernel
theorem dX9_targetAt_6 : decode cX9_targetAt 6 = .ok (.getfield 12, 3) := by decide +kernel
theorem dX9_targetAt_9 : decode cX9_targetAt 9 = .ok (.getfield 281, 3) := by decide +kernel
theorem dX9_targetAt_12 : decode cX9_targetAt 12 = .ok (.getfield 285, 3) := by decide +kernel
theorem dX9_targetAt_15 : decode cX9_targetAt 15 = .ok (.if_icmp .lt 14, 3) := by decide +kernel
theorem dX9_targetAt_18 : decode cX9_targetAt 18 = .ok (.new 200, 3) := by decide +kernel
theorem dX9_targetAt_21 : decode cX9_targetAt 21 = .ok (.dup, 1) := by decide +kernel
theorem dX9_targetAt_22 : decode cX9_targetAt 22 = .ok (.ldc_w 303, 3) := by decide +kernel
theorem dX9_targetAt_25 : decode cX9_targetAt 25 = .ok (.invokespecial 204, 3) := by decide +kernel
theorem dX9_targetAt_28 : decode cX9_targetAt 28 = .ok (.athrow, 1) := by decide +kernel
theorem dX9_targetAt_29 : decode cX9_targetAt 29 = .ok (.aload_n 0, 1) := by decide +kernel
theorem dX9_targetAt_30 : decode cX9_targetAt 30 = .ok (.getfield 12, 3) := by decide +kernel
theorem dX9_targetAt_33 : decode cX9_targetAt 33 = .ok (.getfield 281, 3) := by decide +kernel
theorem dX9_targetAt_36 : decode cX9_targetAt 36 = .ok (.getfield 305, 3) := by decide +kernel
theorem dX9_targetAt_39 : decode cX9_targetAt 39 = .ok (.iload_n 1, 1) := by decide +kernel
theorem dX9_targetAt_40 : decode cX9_targetAt 40 = .ok (.iaload, 1) := by decide +kernel
theorem dX9_targetAt_41 : decode cX9_targetAt 41 = .ok (.ireturn, 1) := by decide +kernel
theorem dX9_dueEntry_0 : decode cX9_dueEntry 0 = .ok (.aload_n 0, 1) := by decide +kernel
theorem dX9_dueEntry_1 : decode cX9_dueEntry 1 = .ok (.invokevirtual 308, 3) := by decide +kernel
theorem dX9_dueEntry_4 : decode cX9_dueEntry 4 = .ok (.ireturn, 1) := by decide +kernel
theorem dX9_missedDays_0 : decode cX9_missedDays 0 = .ok (.aload_n 0, 1) := by decide +kernel
theorem dX9_missedDays_1 : decode cX9_missedDays 1 = .ok (.invokevirtual 311, 3) := by decide +kernel
theorem dX9_missedDays_4 : decode cX9_missedDays 4 = .ok (.aload_n 0, 1) := by decide +kernel
theorem dX9_missedDays_5 : decode cX9_missedDays 5 = .ok (.getfield 48, 3) := by decide +kernel
theorem dX9_missedDays_8 : decode cX9_missedDays 8 = .ok (.getfield 314, 3) := by decide +kernel
theorem dX9_missedDays_11 : decode cX9_missedDays 11 = .ok (.ireturn, 1) := by decide +kernel
theorem dX9_droppedEntries_0 : decode cX9_droppedEntries 0 = .ok (.aload_n 0, 1) := by decide +kernel
theorem dX9_droppedEntries_1 : decode cX9_droppedEntries 1 = .ok (.invokevirtual 311, 3) := by decide +kernel
theorem dX9_droppedEntries_4 : decode cX9_droppedEntries 4 = .ok (.aload_n 0, 1) := by decide +kernel
theorem dX9_droppedEntries_5 : decode cX9_droppedEntries 5 = .ok (.getfield 48, 3) := by decide +kernel
theorem dX9_droppedEntries_8 : decode cX9_droppedEntries 8 = .ok (.getfield 317, 3) := by decide +kernel
theorem dX9_droppedEntries_11 : decode cX9_droppedEntries 11 = .ok (.ireturn, 1) := by decide +kernel
theorem dX9_planEnd_0 : decode cX9_planEnd 0 = .ok (.aload_n 0, 1) := by decide +kernel
theorem dX9_planEnd_1 : decode cX9_planEnd 1 = .ok (.getfield 12, 3) := by decide +kernel
theorem dX9_planEnd_4 : decode cX9_planEnd 4 = .ok (.getfield 281, 3) := by decide +kernel
theorem dX9_planEnd_7 : decode cX9_planEnd 7 = .ok (.getfield 285, 3) := by decide +kernel
theorem dX9_planEnd_10 : decode cX9_planEnd 10 = .ok (.iconst 1, 1) := by decide +kernel
theorem dX9_planEnd_11 : decode cX9_planEnd 11 = .ok (.isub, 1) := by decide +kernel
theorem dX9_planEnd_12 : decode cX9_planEnd 12 = .ok (.aload_n 0, 1) := by decide +kernel
theorem dX9_planEnd_13 : decode cX9_planEnd 13 = .ok (.invokevirtual 308, 3) := by decide +kernel
theorem dX9_planEnd_16 : decode cX9_planEnd 16 = .ok (.isub, 1) := by decide +kernel
theorem dX9_planEnd_17 : decode cX9_planEnd 17 = .ok (.istore_n 1, 1) := by decide +kernel
theorem dX9_planEnd_18 : decode cX9_planEnd 18 = .ok (.aload_n 0, 1) := by decide +kernel
theorem dX9_planEnd_19 : decode cX9_planEnd 19 = .ok (.getfield 12, 3) := by decide +kernel
theorem dX9_planEnd_22 : decode cX9_planEnd 22 = .ok (.getfield 69, 3) := by decide +kernel
theorem dX9_planEnd_25 : decode cX9_planEnd 25 = .ok (.iload_n 1, 1) := by decide +kernel
theorem dX9_planEnd_26 : decode cX9_planEnd 26 = .ok (.iadd, 1) := by decide +kernel
theorem dX9_planEnd_27 : decode cX9_planEnd 27 = .ok (.ireturn, 1) := by decide +kernel
theorem dX9_isPlanOver_0 : decode cX9_isPlanOver 0 = .ok (.aload_n 0, 1) := by decide +kernel
theorem dX9_isPlanOver_1 : decode cX9_isPlanOver 1 = .ok (.invokevirtual 311, 3) := by decide +kernel
theorem dX9_isPlanOver_4 : decode cX9_isPlanOver 4 = .ok (.aload_n 0, 1) := by decide +kernel
theorem dX9_isPlanOver_5 : decode cX9_isPlanOver 5 = .ok (.getfield 12, 3) := by decide +kernel
theorem dX9_isPlanOver_8 : decode cX9_isPlanOver 8 = .ok (.getfield 281, 3) := by decide +kernel
theorem dX9_isPlanOver_11 : decode cX9_isPlanOver 11 = .ok (.getfield 293, 3) := by decide +kernel
theorem dX9_isPlanOver_14 : decode cX9_isPlanOver 14 = .ok (.ifCond .eq 27, 3) := by decide +kernel
theorem dX9_isPlanOver_17 : decode cX9_isPlanOver 17 = .ok (.aload_n 0, 1) := by decide +kernel
theorem dX9_isPlanOver_18 : decode cX9_isPlanOver 18 = .ok (.getfield 48, 3) := by decide +kernel
theorem dX9_isPlanOver_21 : decode cX9_isPlanOver 21 = .ok (.getfield 320, 3) := by decide +kernel
theorem dX9_isPlanOver_24 : decode cX9_isPlanOver 24 = .ok (.aload_n 0, 1) := by decide +kernel
theorem dX9_isPlanOver_25 : decode cX9_isPlanOver 25 = .ok (.getfield 12, 3) := by decide +kernel
theorem dX9_isPlanOver_28 : decode cX9_isPlanOver 28 = .ok (.getfield 281, 3) := by decide +kernel
theorem dX9_isPlanOver_31 : decode cX9_isPlanOver 31 = .ok (.getfield 285, 3) := by decide +kernel
theorem dX9_isPlanOver_34 : decode cX9_isPlanOver 34 = .ok (.if_icmp .lt 7, 3) := by decide +kernel
theorem dX9_isPlanOver_37 : decode cX9_isPlanOver 37 = .ok (.iconst 1, 1) := by decide +kernel
theorem dX9_isPlanOver_38 : decode cX9_isPlanOver 38 = .ok (.goto 4, 3) := by decide +kernel
theorem dX9_isPlanOver_41 : decode cX9_isPlanOver 41 = .ok (.iconst 0, 1) := by decide +kernel
theorem dX9_isPlanOver_42 : decode cX9_isPlanOver 42 = .ok (.ireturn, 1) := by decide +kernel
theorem dX9_writeWeek_0 : decode cX9_writeWeek 0 = .ok (.aload_n 0, 1) := by decide +kernel
theorem dX9_writeWeek_1 : decode cX9_writeWeek 1 = .ok (.iload_n 1, 1) := by decide +kernel
theorem dX9_writeWeek_2 : decode cX9_writeWeek 2 = .ok (.invokevirtual 83, 3) := by decide +kernel
theorem dX9_writeWeek_5 : decode cX9_writeWeek 5 = .ok (.iconst 0, 1) := by decide +kernel
theorem dX9_writeWeek_6 : decode cX9_writeWeek 6 = .ok (.istore_n 2, 1) := by decide +kernel
theorem dX9_writeWeek_7 : decode cX9_writeWeek 7 = .ok (.iload_n 2, 1) := by decide +kernel
theorem dX9_writeWeek_8 : decode cX9_writeWeek 8 = .ok (.bipush 7, 2) := by decide +kernel
theorem dX9_writeWeek_10 : decode cX9_writeWeek 10 = .ok (.if_icmp .ge 40, 3) := by decide +kernel
theorem dX9_writeWeek_13 : decode cX9_writeWeek 13 = .ok (.iload_n 2, 1) := by decide +kernel
theorem dX9_writeWeek_14 : decode cX9_writeWeek 14 = .ok (.ifCond .le 15, 3) := by decide +kernel
theorem dX9_writeWeek_17 : decode cX9_writeWeek 17 = .ok (.aload_n 0, 1) := by decide +kernel
theorem dX9_writeWeek_18 : decode cX9_writeWeek 18 = .ok (.getfield 30, 3) := by decide +kernel
theorem dX9_writeWeek_21 : decode cX9_writeWeek 21 = .ok (.iconst 2, 1) := by decide +kernel
theorem dX9_writeWeek_22 : decode cX9_writeWeek 22 = .ok (.iload_n 2, 1) := by decide +kernel
theorem dX9_writeWeek_23 : decode cX9_writeWeek 23 = .ok (.imul, 1) := by decide +kernel
theorem dX9_writeWeek_24 : decode cX9_writeWeek 24 = .ok (.iconst 1, 1) := by decide +kernel
theorem dX9_writeWeek_25 : decode cX9_writeWeek 25 = .ok (.isub, 1) := by decide +kernel
theorem dX9_writeWeek_26 : decode cX9_writeWeek 26 = .ok (.bipush 32, 2) := by decide +kernel
theorem dX9_writeWeek_28 : decode cX9_writeWeek 28 = .ok (.castore, 1) := by decide +kernel
theorem dX9_writeWeek_29 : decode cX9_writeWeek 29 = .ok (.aload_n 0, 1) := by decide +kernel
theorem dX9_writeWeek_30 : decode cX9_writeWeek 30 = .ok (.getfield 30, 3) := by decide +kernel
theorem dX9_writeWeek_33 : decode cX9_writeWeek 33 = .ok (.iconst 2, 1) := by decide +kernel
theorem dX9_writeWeek_34 : decode cX9_writeWeek 34 = .ok (.iload_n 2, 1) := by decide +kernel
theorem dX9_writeWeek_35 : decode cX9_writeWeek 35 = .ok (.imul, 1) := by decide +kernel
theorem dX9_writeWeek_36 : decode cX9_writeWeek 36 = .ok (.aload_n 0, 1) := by decide +kernel
theorem dX9_writeWeek_37 : decode cX9_writeWeek 37 = .ok (.iload_n 1, 1) := by decide +kernel
theorem dX9_writeWeek_38 : decode cX9_writeWeek 38 = .ok (.iload_n 2, 1) := by decide +kernel
theorem dX9_writeWeek_39 : decode cX9_writeWeek 39 = .ok (.iadd, 1) := by decide +kernel
theorem dX9_writeWeek_40 : decode cX9_writeWeek 40 = .ok (.invokevirtual 323, 3) := by decide +kernel
theorem dX9_writeWeek_43 : decode cX9_writeWeek 43 = .ok (.castore, 1) := by decide +kernel
theorem dX9_writeWeek_44 : decode cX9_writeWeek 44 = .ok (.iinc 2 1, 3) := by decide +kernel
theorem dX9_writeWeek_47 : decode cX9_writeWeek 47 = .ok (.goto (-40), 3) := by decide +kernel
theorem dX9_writeWeek_50 : decode cX9_writeWeek 50 = .ok (.aload_n 0, 1) := by decide +kernel
theorem dX9_writeWeek_51 : decode cX9_writeWeek 51 = .ok (.bipush 13, 2) := by decide +kernel
theorem dX9_writeWeek_53 : decode cX9_writeWeek 53 = .ok (.putfield 34, 3) := by decide +kernel
theorem dX9_writeWeek_56 : decode cX9_writeWeek 56 = .ok (.aload_n 0, 1) := by decide +kernel
theorem dX9_writeWeek_57 : decode cX9_writeWeek 57 = .ok (.getfield 34, 3) := by decide +kernel
theorem dX9_writeWeek_60 : decode cX9_writeWeek 60 = .ok (.ireturn, 1) := by decide +kernel
theorem dX9_lineAt_0 : decode cX9_lineAt 0 = .ok (.iload_n 1, 1) := by decide +kernel
theorem dX9_lineAt_1 : decode cX9_lineAt 1 = .ok (.ifCond .lt 11, 3) := by decide +kernel
theorem dX9_lineAt_4 : decode cX9_lineAt 4 = .ok (.iload_n 1, 1) := by decide +kernel
theorem dX9_lineAt_5 : decode cX9_lineAt 5 = .ok (.aload_n 0, 1) := by decide +kernel
theorem dX9_lineAt_6 : decode cX9_lineAt 6 = .ok (.getfield 34, 3) := by decide +kernel
theorem dX9_lineAt_9 : decode cX9_lineAt 9 = .ok (.if_icmp .lt 14, 3) := by decide +kernel
theorem dX9_lineAt_12 : decode cX9_lineAt 12 = .ok (.new 200, 3) := by decide +kernel
theorem dX9_lineAt_15 : decode cX9_lineAt 15 = .ok (.dup, 1) := by decide +kernel
theorem dX9_lineAt_16 : decode cX9_lineAt 16 = .ok (.ldc_w 327, 3) := by decide +kernel
theorem dX9_lineAt_19 : decode cX9_lineAt 19 = .ok (.invokespecial 204, 3) := by decide +kernel
theorem dX9_lineAt_22 : decode cX9_lineAt 22 = .ok (.athrow, 1) := by decide +kernel
theorem dX9_lineAt_23 : decode cX9_lineAt 23 = .ok (.aload_n 0, 1) := by decide +kernel
theorem dX9_lineAt_24 : decode cX9_lineAt 24 = .ok (.getfield 30, 3) := by decide +kernel
theorem dX9_lineAt_27 : decode cX9_lineAt 27 = .ok (.iload_n 1, 1) := by decide +kernel
theorem dX9_lineAt_28 : decode cX9_lineAt 28 = .ok (.caload, 1) := by decide +kernel
theorem dX9_lineAt_29 : decode cX9_lineAt 29 = .ok (.ireturn, 1) := by decide +kernel
theorem dX9_undo_0 : decode cX9_undo 0 = .ok (.aload_n 0, 1) := by decide +kernel
theorem dX9_undo_1 : decode cX9_undo 1 = .ok (.getfield 19, 3) := by decide +kernel
theorem dX9_undo_4 : decode cX9_undo 4 = .ok (.getfield 329, 3) := by decide +kernel
theorem dX9_undo_7 : decode cX9_undo 7 = .ok (.ifCond .ne 14, 3) := by decide +kernel
theorem dX9_undo_10 : decode cX9_undo 10 = .ok (.new 72, 3) := by decide +kernel
theorem dX9_undo_13 : decode cX9_undo 13 = .ok (.dup, 1) := by decide +kernel
theorem dX9_undo_14 : decode cX9_undo 14 = .ok (.ldc_w 330, 3) := by decide +kernel
theorem dX9_undo_17 : decode cX9_undo 17 = .ok (.invokespecial 76, 3) := by decide +kernel
theorem dX9_undo_20 : decode cX9_undo 20 = .ok (.athrow, 1) := by decide +kernel
theorem dX9_undo_21 : decode cX9_undo 21 = .ok (.aload_n 0, 1) := by decide +kernel
theorem dX9_undo_22 : decode cX9_undo 22 = .ok (.getfield 19, 3) := by decide +kernel
theorem dX9_undo_25 : decode cX9_undo 25 = .ok (.aload_n 0, 1) := by decide +kernel
theorem dX9_undo_26 : decode cX9_undo 26 = .ok (.getfield 12, 3) := by decide +kernel
theorem dX9_undo_29 : decode cX9_undo 29 = .ok (.invokevirtual 332, 3) := by decide +kernel
theorem dX9_undo_32 : decode cX9_undo 32 = .ok (.aload_n 0, 1) := by decide +kernel
theorem dX9_undo_33 : decode cX9_undo 33 = .ok (.getfield 41, 3) := by decide +kernel
theorem dX9_undo_36 : decode cX9_undo 36 = .ok (.iconst 0, 1) := by decide +kernel
theorem dX9_undo_37 : decode cX9_undo 37 = .ok (.invokevirtual 110, 3) := by decide +kernel
theorem dX9_undo_40 : decode cX9_undo 40 = .ok (.aload_n 0, 1) := by decide +kernel
theorem dX9_undo_41 : decode cX9_undo 41 = .ok (.getfield 19, 3) := by decide +kernel
theorem dX9_undo_44 : decode cX9_undo 44 = .ok (.getfield 329, 3) := by decide +kernel
theorem dX9_undo_47 : decode cX9_undo 47 = .ok (.ireturn, 1) := by decide +kernel
theorem dX9_save_0 : decode cX9_save 0 = .ok (.aload_n 0, 1) := by decide +kernel
theorem dX9_save_1 : decode cX9_save 1 = .ok (.getfield 23, 3) := by decide +kernel
theorem dX9_save_4 : decode cX9_save 4 = .ok (.aload_n 0, 1) := by decide +kernel
theorem dX9_save_5 : decode cX9_save 5 = .ok (.getfield 12, 3) := by decide +kernel
theorem dX9_save_8 : decode cX9_save 8 = .ok (.invokevirtual 335, 3) := by decide +kernel
theorem dX9_save_11 : decode cX9_save 11 = .ok (.aload_n 0, 1) := by decide +kernel
theorem dX9_save_12 : decode cX9_save 12 = .ok (.iconst 1, 1) := by decide +kernel
theorem dX9_save_13 : decode cX9_save 13 = .ok (.putfield 26, 3) := by decide +kernel
theorem dX9_save_16 : decode cX9_save 16 = .ok (.aload_n 0, 1) := by decide +kernel
theorem dX9_save_17 : decode cX9_save 17 = .ok (.getfield 12, 3) := by decide +kernel
theorem dX9_save_20 : decode cX9_save 20 = .ok (.getfield 156, 3) := by decide +kernel
theorem dX9_save_23 : decode cX9_save 23 = .ok (.getfield 160, 3) := by decide +kernel
theorem dX9_save_26 : decode cX9_save 26 = .ok (.ireturn, 1) := by decide +kernel
theorem dX9_restore_0 : decode cX9_restore 0 = .ok (.aload_n 0, 1) := by decide +kernel
theorem dX9_restore_1 : decode cX9_restore 1 = .ok (.getfield 26, 3) := by decide +kernel
theorem dX9_restore_4 : decode cX9_restore 4 = .ok (.ifCond .ne 14, 3) := by decide +kernel
theorem dX9_restore_7 : decode cX9_restore 7 = .ok (.new 72, 3) := by decide +kernel
theorem dX9_restore_10 : decode cX9_restore 10 = .ok (.dup, 1) := by decide +kernel
theorem dX9_restore_11 : decode cX9_restore 11 = .ok (.ldc_w 338, 3) := by decide +kernel
theorem dX9_restore_14 : decode cX9_restore 14 = .ok (.invokespecial 76, 3) := by decide +kernel
theorem dX9_restore_17 : decode cX9_restore 17 = .ok (.athrow, 1) := by decide +kernel
theorem dX9_restore_18 : decode cX9_restore 18 = .ok (.aload_n 0, 1) := by decide +kernel
theorem dX9_restore_19 : decode cX9_restore 19 = .ok (.getfield 12, 3) := by decide +kernel
theorem dX9_restore_22 : decode cX9_restore 22 = .ok (.aload_n 0, 1) := by decide +kernel
theorem dX9_restore_23 : decode cX9_restore 23 = .ok (.getfield 23, 3) := by decide +kernel
theorem dX9_restore_26 : decode cX9_restore 26 = .ok (.invokevirtual 335, 3) := by decide +kernel
theorem dX9_restore_29 : decode cX9_restore 29 = .ok (.aload_n 0, 1) := by decide +kernel
theorem dX9_restore_30 : decode cX9_restore 30 = .ok (.getfield 19, 3) := by decide +kernel
theorem dX9_restore_33 : decode cX9_restore 33 = .ok (.invokevirtual 340, 3) := by decide +kernel
theorem dX9_restore_36 : decode cX9_restore 36 = .ok (.aload_n 0, 1) := by decide +kernel
theorem dX9_restore_37 : decode cX9_restore 37 = .ok (.getfield 41, 3) := by decide +kernel
theorem dX9_restore_40 : decode cX9_restore 40 = .ok (.iconst 0, 1) := by decide +kernel
theorem dX9_restore_41 : decode cX9_restore 41 = .ok (.invokevirtual 110, 3) := by decide +kernel
theorem dX9_restore_44 : decode cX9_restore 44 = .ok (.aload_n 0, 1) := by decide +kernel
theorem dX9_restore_45 : decode cX9_restore 45 = .ok (.getfield 12, 3) := by decide +kernel
theorem dX9_restore_48 : decode cX9_restore 48 = .ok (.getfield 156, 3) := by decide +kernel
theorem dX9_restore_51 : decode cX9_restore 51 = .ok (.getfield 160, 3) := by decide +kernel
theorem dX9_restore_54 : decode cX9_restore 54 = .ok (.ireturn, 1) := by decide +kernel
theorem dX9_requireRange_0 : decode cX9_requireRange 0 = .ok (.iload_n 0, 1) := by decide +kernel
theorem dX9_requireRange_1 : decode cX9_requireRange 1 = .ok (.iload_n 1, 1) := by decide +kernel
theorem dX9_requireRange_2 : decode cX9_requireRange 2 = .ok (.if_icmp .lt 8, 3) := by decide +kernel
theorem dX9_requireRange_5 : decode cX9_requireRange 5 = .ok (.iload_n 0, 1) := by decide +kernel
theorem dX9_requireRange_6 : decode cX9_requireRange 6 = .ok (.iload_n 2, 1) := by decide +kernel
theorem dX9_requireRange_7 : decode cX9_requireRange 7 = .ok (.if_icmp .le 14, 3) := by decide +kernel
theorem dX9_requireRange_10 : decode cX9_requireRange 10 = .ok (.new 343, 3) := by decide +kernel
theorem dX9_requireRange_13 : decode cX9_requireRange 13 = .ok (.dup, 1) := by decide +kernel
theorem dX9_requireRange_14 : decode cX9_requireRange 14 = .ok (.ldc_w 345, 3) := by decide +kernel
theorem dX9_requireRange_17 : decode cX9_requireRange 17 = .ok (.invokespecial 347, 3) := by decide +kernel
theorem dX9_requireRange_20 : decode cX9_requireRange 20 = .ok (.athrow, 1) := by decide +kernel
theorem dX9_requireRange_21 : decode cX9_requireRange 21 = .ok (.return_, 1) := by decide +kernel
theorem dX9_requireZone_0 : decode cX9_requireZone 0 = .ok (.iload_n 0, 1) := by decide +kernel
theorem dX9_requireZone_1 : decode cX9_requireZone 1 = .ok (.iconst 1, 1) := by decide +kernel
theorem dX9_requireZone_2 : decode cX9_requireZone 2 = .ok (.iconst 5, 1) := by decide +kernel
theorem dX9_requireZone_3 : decode cX9_requireZone 3 = .ok (.invokestatic 65, 3) := by decide +kernel
theorem dX9_requireZone_6 : decode cX9_requireZone 6 = .ok (.return_, 1) := by decide +kernel
theorem dX9_requireDayUpToToday_0 : decode cX9_requireDayUpToToday 0 = .ok (.iload_n 1, 1) := by decide +kernel
theorem dX9_requireDayUpToToday_1 : decode cX9_requireDayUpToToday 1 = .ok (.iconst 0, 1) := by decide +kernel
theorem dX9_requireDayUpToToday_2 : decode cX9_requireDayUpToToday 2 = .ok (.aload_n 0, 1) := by decide +kernel
theorem dX9_requireDayUpToToday_3 : decode cX9_requireDayUpToToday 3 = .ok (.getfield 12, 3) := by decide +kernel
theorem dX9_requireDayUpToToday_6 : decode cX9_requireDayUpToToday 6 = .ok (.getfield 69, 3) := by decide +kernel
theorem dX9_requireDayUpToToday_9 : decode cX9_requireDayUpToToday 9 = .ok (.invokestatic 65, 3) := by decide +kernel
theorem dX9_requireDayUpToToday_12 : decode cX9_requireDayUpToToday 12 = .ok (.return_, 1) := by decide +kernel
theorem dX9_requireRowOfDays_0 : decode cX9_requireRowOfDays 0 = .ok (.iload_n 1, 1) := by decide +kernel
theorem dX9_requireRowOfDays_1 : decode cX9_requireRowOfDays 1 = .ok (.iconst 1, 1) := by decide +kernel
theorem dX9_requireRowOfDays_2 : decode cX9_requireRowOfDays 2 = .ok (.bipush 60, 2) := by decide +kernel
theorem dX9_requireRowOfDays_4 : decode cX9_requireRowOfDays 4 = .ok (.invokestatic 65, 3) := by decide +kernel
theorem dX9_requireRowOfDays_7 : decode cX9_requireRowOfDays 7 = .ok (.aload_n 0, 1) := by decide +kernel
theorem dX9_requireRowOfDays_8 : decode cX9_requireRowOfDays 8 = .ok (.getfield 12, 3) := by decide +kernel
theorem dX9_requireRowOfDays_11 : decode cX9_requireRowOfDays 11 = .ok (.getfield 69, 3) := by decide +kernel
theorem dX9_requireRowOfDays_14 : decode cX9_requireRowOfDays 14 = .ok (.iload_n 1, 1) := by decide +kernel
theorem dX9_requireRowOfDays_15 : decode cX9_requireRowOfDays 15 = .ok (.iconst 1, 1) := by decide +kernel
theorem dX9_requireRowOfDays_16 : decode cX9_requireRowOfDays 16 = .ok (.isub, 1) := by decide +kernel
theorem dX9_requireRowOfDays_17 : decode cX9_requireRowOfDays 17 = .ok (.if_icmp .ge 14, 3) := by decide +kernel
theorem dX9_requireRowOfDays_20 : decode cX9_requireRowOfDays 20 = .ok (.new 117, 3) := by decide +kernel
theorem dX9_requireRowOfDays_23 : decode cX9_requireRowOfDays 23 = .ok (.dup, 1) := by decide +kernel
theorem dX9_requireRowOfDays_24 : decode cX9_requireRowOfDays 24 = .ok (.ldc_w 348, 3) := by decide +kernel
theorem dX9_requireRowOfDays_27 : decode cX9_requireRowOfDays 27 = .ok (.invokespecial 121, 3) := by decide +kernel
theorem dX9_requireRowOfDays_30 : decode cX9_requireRowOfDays 30 = .ok (.athrow, 1) := by decide +kernel
theorem dX9_requireRowOfDays_31 : decode cX9_requireRowOfDays 31 = .ok (.return_, 1) := by decide +kernel
theorem dX9_requireRowOfMinutes_0 : decode cX9_requireRowOfMinutes 0 = .ok (.iload_n 1, 1) := by decide +kernel
theorem dX9_requireRowOfMinutes_1 : decode cX9_requireRowOfMinutes 1 = .ok (.iconst 1, 1) := by decide +kernel
theorem dX9_requireRowOfMinutes_2 : decode cX9_requireRowOfMinutes 2 = .ok (.sipush 240, 3) := by decide +kernel
theorem dX9_requireRowOfMinutes_5 : decode cX9_requireRowOfMinutes 5 = .ok (.invokestatic 65, 3) := by decide +kernel
theorem dX9_requireRowOfMinutes_8 : decode cX9_requireRowOfMinutes 8 = .ok (.aload_n 0, 1) := by decide +kernel
theorem dX9_requireRowOfMinutes_9 : decode cX9_requireRowOfMinutes 9 = .ok (.getfield 12, 3) := by decide +kernel
theorem dX9_requireRowOfMinutes_12 : decode cX9_requireRowOfMinutes 12 = .ok (.getfield 156, 3) := by decide +kernel
theorem dX9_requireRowOfMinutes_15 : decode cX9_requireRowOfMinutes 15 = .ok (.iload_n 1, 1) := by decide +kernel
theorem dX9_requireRowOfMinutes_16 : decode cX9_requireRowOfMinutes 16 = .ok (.invokevirtual 350, 3) := by decide +kernel
theorem dX9_requireRowOfMinutes_19 : decode cX9_requireRowOfMinutes 19 = .ok (.ifCond .ne 14, 3) := by decide +kernel
theorem dX9_requireRowOfMinutes_22 : decode cX9_requireRowOfMinutes 22 = .ok (.new 117, 3) := by decide +kernel
theorem dX9_requireRowOfMinutes_25 : decode cX9_requireRowOfMinutes 25 = .ok (.dup, 1) := by decide +kernel
theorem dX9_requireRowOfMinutes_26 : decode cX9_requireRowOfMinutes 26 = .ok (.ldc_w 354, 3) := by decide +kernel
theorem dX9_requireRowOfMinutes_29 : decode cX9_requireRowOfMinutes 29 = .ok (.invokespecial 121, 3) := by decide +kernel
theorem dX9_requireRowOfMinutes_32 : decode cX9_requireRowOfMinutes 32 = .ok (.athrow, 1) := by decide +kernel
theorem dX9_requireRowOfMinutes_33 : decode cX9_requireRowOfMinutes 33 = .ok (.return_, 1) := by decide +kernel
theorem dX9_existingPosition_0 : decode cX9_existingPosition 0 = .ok (.aload_n 0, 1) := by decide +kernel
theorem dX9_existingPosition_1 : decode cX9_existingPosition 1 = .ok (.getfield 12, 3) := by decide +kernel
theorem dX9_existingPosition_4 : decode cX9_existingPosition 4 = .ok (.getfield 156, 3) := by decide +kernel
theorem dX9_existingPosition_7 : decode cX9_existingPosition 7 = .ok (.iload_n 1, 1) := by decide +kernel
theorem dX9_existingPosition_8 : decode cX9_existingPosition 8 = .ok (.invokevirtual 356, 3) := by decide +kernel
theorem dX9_existingPosition_11 : decode cX9_existingPosition 11 = .ok (.istore_n 2, 1) := by decide +kernel
theorem dX9_existingPosition_12 : decode cX9_existingPosition 12 = .ok (.iload_n 2, 1) := by decide +kernel
theorem dX9_existingPosition_13 : decode cX9_existingPosition 13 = .ok (.ifCond .ge 14, 3) := by decide +kernel
theorem dX9_existingPosition_16 : decode cX9_existingPosition 16 = .ok (.new 117, 3) := by decide +kernel
theorem dX9_existingPosition_19 : decode cX9_existingPosition 19 = .ok (.dup, 1) := by decide +kernel
theorem dX9_existingPosition_20 : decode cX9_existingPosition 20 = .ok (.ldc_w 359, 3) := by decide +kernel
theorem dX9_existingPosition_23 : decode cX9_existingPosition 23 = .ok (.invokespecial 121, 3) := by decide +kernel
theorem dX9_existingPosition_26 : decode cX9_existingPosition 26 = .ok (.athrow, 1) := by decide +kernel
theorem dX9_existingPosition_27 : decode cX9_existingPosition 27 = .ok (.iload_n 2, 1) := by decide +kernel
theorem dX9_existingPosition_28 : decode cX9_existingPosition 28 = .ok (.ireturn, 1) := by decide +kernel
theorem dX9_existingSession_0 : decode cX9_existingSession 0 = .ok (.aload_n 0, 1) := by decide +kernel
theorem dX9_existingSession_1 : decode cX9_existingSession 1 = .ok (.getfield 12, 3) := by decide +kernel
theorem dX9_existingSession_4 : decode cX9_existingSession 4 = .ok (.getfield 156, 3) := by decide +kernel
theorem dX9_existingSession_7 : decode cX9_existingSession 7 = .ok (.getfield 205, 3) := by decide +kernel
theorem dX9_existingSession_10 : decode cX9_existingSession 10 = .ok (.aload_n 0, 1) := by decide +kernel
theorem dX9_existingSession_11 : decode cX9_existingSession 11 = .ok (.iload_n 1, 1) := by decide +kernel
theorem dX9_existingSession_12 : decode cX9_existingSession 12 = .ok (.invokevirtual 187, 3) := by decide +kernel
theorem dX9_existingSession_15 : decode cX9_existingSession 15 = .ok (.aaload, 1) := by decide +kernel
theorem dX9_existingSession_16 : decode cX9_existingSession 16 = .ok (.areturn, 1) := by decide +kernel
theorem dX9_clear_0 : decode cX9_clear 0 = .ok (.iconst 0, 1) := by decide +kernel
theorem dX9_clear_1 : decode cX9_clear 1 = .ok (.istore_n 1, 1) := by decide +kernel
theorem dX9_clear_2 : decode cX9_clear 2 = .ok (.iload_n 1, 1) := by decide +kernel
theorem dX9_clear_3 : decode cX9_clear 3 = .ok (.aload_n 0, 1) := by decide +kernel
theorem dX9_clear_4 : decode cX9_clear 4 = .ok (.arraylength, 1) := by decide +kernel
theorem dX9_clear_5 : decode cX9_clear 5 = .ok (.if_icmp .ge 13, 3) := by decide +kernel
theorem dX9_clear_8 : decode cX9_clear 8 = .ok (.aload_n 0, 1) := by decide +kernel
theorem dX9_clear_9 : decode cX9_clear 9 = .ok (.iload_n 1, 1) := by decide +kernel
theorem dX9_clear_10 : decode cX9_clear 10 = .ok (.iconst 0, 1) := by decide +kernel
theorem dX9_clear_11 : decode cX9_clear 11 = .ok (.iastore, 1) := by decide +kernel
theorem dX9_clear_12 : decode cX9_clear 12 = .ok (.iinc 1 1, 3) := by decide +kernel
theorem dX9_clear_15 : decode cX9_clear 15 = .ok (.goto (-13), 3) := by decide +kernel
theorem dX9_clear_18 : decode cX9_clear 18 = .ok (.return_, 1) := by decide +kernel
theorem dX9_sumOfLoads_0 : decode cX9_sumOfLoads 0 = .ok (.iconst 0, 1) := by decide +kernel
theorem dX9_sumOfLoads_1 : decode cX9_sumOfLoads 1 = .ok (.istore_n 3, 1) := by decide +kernel
theorem dX9_sumOfLoads_2 : decode cX9_sumOfLoads 2 = .ok (.iload_n 1, 1) := by decide +kernel
theorem dX9_sumOfLoads_3 : decode cX9_sumOfLoads 3 = .ok (.istore 4, 2) := by decide +kernel
theorem dX9_sumOfLoads_5 : decode cX9_sumOfLoads 5 = .ok (.iload 4, 2) := by decide +kernel
theorem dX9_sumOfLoads_7 : decode cX9_sumOfLoads 7 = .ok (.iload_n 1, 1) := by decide +kernel
theorem dX9_sumOfLoads_8 : decode cX9_sumOfLoads 8 = .ok (.iload_n 2, 1) := by decide +kernel
theorem dX9_sumOfLoads_9 : decode cX9_sumOfLoads 9 = .ok (.iadd, 1) := by decide +kernel
theorem dX9_sumOfLoads_10 : decode cX9_sumOfLoads 10 = .ok (.if_icmp .ge 19, 3) := by decide +kernel
theorem dX9_sumOfLoads_13 : decode cX9_sumOfLoads 13 = .ok (.iload_n 3, 1) := by decide +kernel
theorem dX9_sumOfLoads_14 : decode cX9_sumOfLoads 14 = .ok (.aload_n 0, 1) := by decide +kernel
theorem dX9_sumOfLoads_15 : decode cX9_sumOfLoads 15 = .ok (.getfield 52, 3) := by decide +kernel
theorem dX9_sumOfLoads_18 : decode cX9_sumOfLoads 18 = .ok (.iload 4, 2) := by decide +kernel
theorem dX9_sumOfLoads_20 : decode cX9_sumOfLoads 20 = .ok (.iaload, 1) := by decide +kernel
theorem dX9_sumOfLoads_21 : decode cX9_sumOfLoads 21 = .ok (.iadd, 1) := by decide +kernel
theorem dX9_sumOfLoads_22 : decode cX9_sumOfLoads 22 = .ok (.istore_n 3, 1) := by decide +kernel
theorem dX9_sumOfLoads_23 : decode cX9_sumOfLoads 23 = .ok (.iinc 4 1, 3) := by decide +kernel
theorem dX9_sumOfLoads_26 : decode cX9_sumOfLoads 26 = .ok (.goto (-21), 3) := by decide +kernel
theorem dX9_sumOfLoads_29 : decode cX9_sumOfLoads 29 = .ok (.iload_n 3, 1) := by decide +kernel
theorem dX9_sumOfLoads_30 : decode cX9_sumOfLoads 30 = .ok (.ireturn, 1) := by decide +kernel
theorem dX9_nextFitness_0 : decode cX9_nextFitness 0 = .ok (.iload_n 0, 1) := by decide +kernel
theorem dX9_nextFitness_1 : decode cX9_nextFitness 1 = .ok (.sipush 1000, 3) := by decide +kernel
theorem dX9_nextFitness_4 : decode cX9_nextFitness 4 = .ok (.iload_n 1, 1) := by decide +kernel
theorem dX9_nextFitness_5 : decode cX9_nextFitness 5 = .ok (.imul, 1) := by decide +kernel
theorem dX9_nextFitness_6 : decode cX9_nextFitness 6 = .ok (.iload_n 0, 1) := by decide +kernel
theorem dX9_nextFitness_7 : decode cX9_nextFitness 7 = .ok (.isub, 1) := by decide +kernel
theorem dX9_nextFitness_8 : decode cX9_nextFitness 8 = .ok (.bipush 42, 2) := by decide +kernel
theorem dX9_nextFitness_10 : decode cX9_nextFitness 10 = .ok (.idiv, 1) := by decide +kernel
theorem dX9_nextFitness_11 : decode cX9_nextFitness 11 = .ok (.iadd, 1) := by decide +kernel
theorem dX9_nextFitness_12 : decode cX9_nextFitness 12 = .ok (.ireturn, 1) := by decide +kernel
theorem dX9_nextFatigue_0 : decode cX9_nextFatigue 0 = .ok (.iload_n 0, 1) := by decide +kernel
theorem dX9_nextFatigue_1 : decode cX9_nextFatigue 1 = .ok (.sipush 1000, 3) := by decide +kernel
theorem dX9_nextFatigue_4 : decode cX9_nextFatigue 4 = .ok (.iload_n 1, 1) := by decide +kernel
theorem dX9_nextFatigue_5 : decode cX9_nextFatigue 5 = .ok (.imul, 1) := by decide +kernel
theorem dX9_nextFatigue_6 : decode cX9_nextFatigue 6 = .ok (.iload_n 0, 1) := by decide +kernel
theorem dX9_nextFatigue_7 : decode cX9_nextFatigue 7 = .ok (.isub, 1) := by decide +kernel
theorem dX9_nextFatigue_8 : decode cX9_nextFatigue 8 = .ok (.bipush 7, 2) := by decide +kernel
theorem dX9_nextFatigue_10 : decode cX9_nextFatigue 10 = .ok (.idiv, 1) := by decide +kernel
theorem dX9_nextFatigue_11 : decode cX9_nextFatigue 11 = .ok (.iadd, 1) := by decide +kernel
theorem dX9_nextFatigue_12 : decode cX9_nextFatigue 12 = .ok (.ireturn, 1) := by decide +kernel
theorem dX9_learnTrend_0 : decode cX9_learnTrend 0 = .ok (.iload_n 1, 1) := by decide +kernel
theorem dX9_learnTrend_1 : decode cX9_learnTrend 1 = .ok (.aload_n 0, 1) := by decide +kernel
theorem dX9_learnTrend_2 : decode cX9_learnTrend 2 = .ok (.getfield 41, 3) := by decide +kernel
theorem dX9_learnTrend_5 : decode cX9_learnTrend 5 = .ok (.getfield 361, 3) := by decide +kernel
theorem dX9_learnTrend_8 : decode cX9_learnTrend 8 = .ok (.if_icmp .ge 4, 3) := by decide +kernel
theorem dX9_learnTrend_11 : decode cX9_learnTrend 11 = .ok (.return_, 1) := by decide +kernel
theorem dX9_learnTrend_12 : decode cX9_learnTrend 12 = .ok (.aload_n 0, 1) := by decide +kernel
theorem dX9_learnTrend_13 : decode cX9_learnTrend 13 = .ok (.getfield 12, 3) := by decide +kernel
theorem dX9_learnTrend_16 : decode cX9_learnTrend 16 = .ok (.aload_n 0, 1) := by decide +kernel
theorem dX9_learnTrend_17 : decode cX9_learnTrend 17 = .ok (.getfield 52, 3) := by decide +kernel
theorem dX9_learnTrend_20 : decode cX9_learnTrend 20 = .ok (.invokevirtual 223, 3) := by decide +kernel
theorem dX9_learnTrend_23 : decode cX9_learnTrend 23 = .ok (.aload_n 0, 1) := by decide +kernel
theorem dX9_learnTrend_24 : decode cX9_learnTrend 24 = .ok (.getfield 41, 3) := by decide +kernel
theorem dX9_learnTrend_27 : decode cX9_learnTrend 27 = .ok (.getfield 361, 3) := by decide +kernel
theorem dX9_learnTrend_30 : decode cX9_learnTrend 30 = .ok (.istore_n 2, 1) := by decide +kernel
theorem dX9_learnTrend_31 : decode cX9_learnTrend 31 = .ok (.iload_n 2, 1) := by decide +kernel
theorem dX9_learnTrend_32 : decode cX9_learnTrend 32 = .ok (.iload_n 1, 1) := by decide +kernel
theorem dX9_learnTrend_33 : decode cX9_learnTrend 33 = .ok (.if_icmp .gt 61, 3) := by decide +kernel
theorem dX9_learnTrend_36 : decode cX9_learnTrend 36 = .ok (.aload_n 0, 1) := by decide +kernel
theorem dX9_learnTrend_37 : decode cX9_learnTrend 37 = .ok (.getfield 41, 3) := by decide +kernel
theorem dX9_learnTrend_40 : decode cX9_learnTrend 40 = .ok (.getfield 237, 3) := by decide +kernel
theorem dX9_learnTrend_43 : decode cX9_learnTrend 43 = .ok (.iload_n 2, 1) := by decide +kernel
theorem dX9_learnTrend_44 : decode cX9_learnTrend 44 = .ok (.aload_n 0, 1) := by decide +kernel
theorem dX9_learnTrend_45 : decode cX9_learnTrend 45 = .ok (.getfield 41, 3) := by decide +kernel
theorem dX9_learnTrend_48 : decode cX9_learnTrend 48 = .ok (.iload_n 2, 1) := by decide +kernel
theorem dX9_learnTrend_49 : decode cX9_learnTrend 49 = .ok (.invokevirtual 249, 3) := by decide +kernel
theorem dX9_learnTrend_52 : decode cX9_learnTrend 52 = .ok (.aload_n 0, 1) := by decide +kernel
theorem dX9_learnTrend_53 : decode cX9_learnTrend 53 = .ok (.getfield 52, 3) := by decide +kernel
theorem dX9_learnTrend_56 : decode cX9_learnTrend 56 = .ok (.iload_n 2, 1) := by decide +kernel
theorem dX9_learnTrend_57 : decode cX9_learnTrend 57 = .ok (.iaload, 1) := by decide +kernel
theorem dX9_learnTrend_58 : decode cX9_learnTrend 58 = .ok (.invokestatic 240, 3) := by decide +kernel
theorem dX9_learnTrend_61 : decode cX9_learnTrend 61 = .ok (.iastore, 1) := by decide +kernel
theorem dX9_learnTrend_62 : decode cX9_learnTrend 62 = .ok (.aload_n 0, 1) := by decide +kernel
theorem dX9_learnTrend_63 : decode cX9_learnTrend 63 = .ok (.getfield 41, 3) := by decide +kernel
theorem dX9_learnTrend_66 : decode cX9_learnTrend 66 = .ok (.getfield 243, 3) := by decide +kernel
theorem dX9_learnTrend_69 : decode cX9_learnTrend 69 = .ok (.iload_n 2, 1) := by decide +kernel
theorem dX9_learnTrend_70 : decode cX9_learnTrend 70 = .ok (.aload_n 0, 1) := by decide +kernel
theorem dX9_learnTrend_71 : decode cX9_learnTrend 71 = .ok (.getfield 41, 3) := by decide +kernel
theorem dX9_learnTrend_74 : decode cX9_learnTrend 74 = .ok (.iload_n 2, 1) := by decide +kernel
theorem dX9_learnTrend_75 : decode cX9_learnTrend 75 = .ok (.invokevirtual 252, 3) := by decide +kernel
theorem dX9_learnTrend_78 : decode cX9_learnTrend 78 = .ok (.aload_n 0, 1) := by decide +kernel
theorem dX9_learnTrend_79 : decode cX9_learnTrend 79 = .ok (.getfield 52, 3) := by decide +kernel
theorem dX9_learnTrend_82 : decode cX9_learnTrend 82 = .ok (.iload_n 2, 1) := by decide +kernel
theorem dX9_learnTrend_83 : decode cX9_learnTrend 83 = .ok (.iaload, 1) := by decide +kernel
theorem dX9_learnTrend_84 : decode cX9_learnTrend 84 = .ok (.invokestatic 246, 3) := by decide +kernel
theorem dX9_learnTrend_87 : decode cX9_learnTrend 87 = .ok (.iastore, 1) := by decide +kernel
theorem dX9_learnTrend_88 : decode cX9_learnTrend 88 = .ok (.iinc 2 1, 3) := by decide +kernel
theorem dX9_learnTrend_91 : decode cX9_learnTrend 91 = .ok (.goto (-60), 3) := by decide +kernel
theorem dX9_learnTrend_94 : decode cX9_learnTrend 94 = .ok (.aload_n 0, 1) := by decide +kernel
theorem dX9_learnTrend_95 : decode cX9_learnTrend 95 = .ok (.getfield 41, 3) := by decide +kernel
theorem dX9_learnTrend_98 : decode cX9_learnTrend 98 = .ok (.iload_n 1, 1) := by decide +kernel
theorem dX9_learnTrend_99 : decode cX9_learnTrend 99 = .ok (.iconst 1, 1) := by decide +kernel
theorem dX9_learnTrend_100 : decode cX9_learnTrend 100 = .ok (.iadd, 1) := by decide +kernel
theorem dX9_learnTrend_101 : decode cX9_learnTrend 101 = .ok (.putfield 361, 3) := by decide +kernel
theorem dX9_learnTrend_104 : decode cX9_learnTrend 104 = .ok (.return_, 1) := by decide +kernel
theorem dX9_startOfBestDays_0 : decode cX9_startOfBestDays 0 = .ok (.aload_n 0, 1) := by decide +kernel
theorem dX9_startOfBestDays_1 : decode cX9_startOfBestDays 1 = .ok (.getfield 12, 3) := by decide +kernel
theorem dX9_startOfBestDays_4 : decode cX9_startOfBestDays 4 = .ok (.aload_n 0, 1) := by decide +kernel
theorem dX9_startOfBestDays_5 : decode cX9_startOfBestDays 5 = .ok (.getfield 52, 3) := by decide +kernel
theorem dX9_startOfBestDays_8 : decode cX9_startOfBestDays 8 = .ok (.invokevirtual 223, 3) := by decide +kernel
theorem dX9_startOfBestDays_11 : decode cX9_startOfBestDays 11 = .ok (.aload_n 0, 1) := by decide +kernel
theorem dX9_startOfBestDays_12 : decode cX9_startOfBestDays 12 = .ok (.iconst 0, 1) := by decide +kernel
theorem dX9_startOfBestDays_13 : decode cX9_startOfBestDays 13 = .ok (.iload_n 1, 1) := by decide +kernel
theorem dX9_startOfBestDays_14 : decode cX9_startOfBestDays 14 = .ok (.invokevirtual 231, 3) := by decide +kernel
theorem dX9_startOfBestDays_17 : decode cX9_startOfBestDays 17 = .ok (.istore_n 2, 1) := by decide +kernel
theorem dX9_startOfBestDays_18 : decode cX9_startOfBestDays 18 = .ok (.iload_n 2, 1) := by decide +kernel
theorem dX9_startOfBestDays_19 : decode cX9_startOfBestDays 19 = .ok (.istore_n 3, 1) := by decide +kernel
theorem dX9_startOfBestDays_20 : decode cX9_startOfBestDays 20 = .ok (.iconst 0, 1) := by decide +kernel
theorem dX9_startOfBestDays_21 : decode cX9_startOfBestDays 21 = .ok (.istore 4, 2) := by decide +kernel
theorem dX9_startOfBestDays_23 : decode cX9_startOfBestDays 23 = .ok (.iconst 1, 1) := by decide +kernel
theorem dX9_startOfBestDays_24 : decode cX9_startOfBestDays 24 = .ok (.istore 5, 2) := by decide +kernel
theorem dX9_startOfBestDays_26 : decode cX9_startOfBestDays 26 = .ok (.iload 5, 2) := by decide +kernel
theorem dX9_startOfBestDays_28 : decode cX9_startOfBestDays 28 = .ok (.iload_n 1, 1) := by decide +kernel
theorem dX9_startOfBestDays_29 : decode cX9_startOfBestDays 29 = .ok (.iadd, 1) := by decide +kernel
theorem dX9_startOfBestDays_30 : decode cX9_startOfBestDays 30 = .ok (.aload_n 0, 1) := by decide +kernel
theorem dX9_startOfBestDays_31 : decode cX9_startOfBestDays 31 = .ok (.getfield 12, 3) := by decide +kernel
theorem dX9_startOfBestDays_34 : decode cX9_startOfBestDays 34 = .ok (.getfield 69, 3) := by decide +kernel
theorem dX9_startOfBestDays_37 : decode cX9_startOfBestDays 37 = .ok (.iconst 1, 1) := by decide +kernel
theorem dX9_startOfBestDays_38 : decode cX9_startOfBestDays 38 = .ok (.iadd, 1) := by decide +kernel
theorem dX9_startOfBestDays_39 : decode cX9_startOfBestDays 39 = .ok (.if_icmp .gt 44, 3) := by decide +kernel
theorem dX9_startOfBestDays_42 : decode cX9_startOfBestDays 42 = .ok (.iload_n 2, 1) := by decide +kernel
theorem dX9_startOfBestDays_43 : decode cX9_startOfBestDays 43 = .ok (.aload_n 0, 1) := by decide +kernel
theorem dX9_startOfBestDays_44 : decode cX9_startOfBestDays 44 = .ok (.getfield 52, 3) := by decide +kernel
theorem dX9_startOfBestDays_47 : decode cX9_startOfBestDays 47 = .ok (.iload 5, 2) := by decide +kernel
theorem dX9_startOfBestDays_49 : decode cX9_startOfBestDays 49 = .ok (.iload_n 1, 1) := by decide +kernel
theorem dX9_startOfBestDays_50 : decode cX9_startOfBestDays 50 = .ok (.iadd, 1) := by decide +kernel
theorem dX9_startOfBestDays_51 : decode cX9_startOfBestDays 51 = .ok (.iconst 1, 1) := by decide +kernel
theorem dX9_startOfBestDays_52 : decode cX9_startOfBestDays 52 = .ok (.isub, 1) := by decide +kernel
theorem dX9_startOfBestDays_53 : decode cX9_startOfBestDays 53 = .ok (.iaload, 1) := by decide +kernel
theorem dX9_startOfBestDays_54 : decode cX9_startOfBestDays 54 = .ok (.aload_n 0, 1) := by decide +kernel
theorem dX9_startOfBestDays_55 : decode cX9_startOfBestDays 55 = .ok (.getfield 52, 3) := by decide +kernel
theorem dX9_startOfBestDays_58 : decode cX9_startOfBestDays 58 = .ok (.iload 5, 2) := by decide +kernel
theorem dX9_startOfBestDays_60 : decode cX9_startOfBestDays 60 = .ok (.iconst 1, 1) := by decide +kernel
theorem dX9_startOfBestDays_61 : decode cX9_startOfBestDays 61 = .ok (.isub, 1) := by decide +kernel
theorem dX9_startOfBestDays_62 : decode cX9_startOfBestDays 62 = .ok (.iaload, 1) := by decide +kernel
theorem dX9_startOfBestDays_63 : decode cX9_startOfBestDays 63 = .ok (.isub, 1) := by decide +kernel
theorem dX9_startOfBestDays_64 : decode cX9_startOfBestDays 64 = .ok (.iadd, 1) := by decide +kernel
theorem dX9_startOfBestDays_65 : decode cX9_startOfBestDays 65 = .ok (.istore_n 2, 1) := by decide +kernel
theorem dX9_startOfBestDays_66 : decode cX9_startOfBestDays 66 = .ok (.iload_n 2, 1) := by decide +kernel
theorem dX9_startOfBestDays_67 : decode cX9_startOfBestDays 67 = .ok (.iload_n 3, 1) := by decide +kernel
theorem dX9_startOfBestDays_68 : decode cX9_startOfBestDays 68 = .ok (.if_icmp .le 9, 3) := by decide +kernel
theorem dX9_startOfBestDays_71 : decode cX9_startOfBestDays 71 = .ok (.iload_n 2, 1) := by decide +kernel
theorem dX9_startOfBestDays_72 : decode cX9_startOfBestDays 72 = .ok (.istore_n 3, 1) := by decide +kernel
theorem dX9_startOfBestDays_73 : decode cX9_startOfBestDays 73 = .ok (.iload 5, 2) := by decide +kernel
theorem dX9_startOfBestDays_75 : decode cX9_startOfBestDays 75 = .ok (.istore 4, 2) := by decide +kernel
theorem dX9_startOfBestDays_77 : decode cX9_startOfBestDays 77 = .ok (.iinc 5 1, 3) := by decide +kernel
theorem dX9_startOfBestDays_80 : decode cX9_startOfBestDays 80 = .ok (.goto (-54), 3) := by decide +kernel
theorem dX9_startOfBestDays_83 : decode cX9_startOfBestDays 83 = .ok (.iload 4, 2) := by decide +kernel
theorem dX9_startOfBestDays_85 : decode cX9_startOfBestDays 85 = .ok (.ireturn, 1) := by decide +kernel
theorem dX9_positionOfBestEffort_0 : decode cX9_positionOfBestEffort 0 = .ok (.aload_n 0, 1) := by decide +kernel
theorem dX9_positionOfBestEffort_1 : decode cX9_positionOfBestEffort 1 = .ok (.iload_n 1, 1) := by decide +kernel
theorem dX9_positionOfBestEffort_2 : decode cX9_positionOfBestEffort 2 = .ok (.invokevirtual 275, 3) := by decide +kernel
theorem dX9_positionOfBestEffort_5 : decode cX9_positionOfBestEffort 5 = .ok (.iconst (-1), 1) := by decide +kernel
theorem dX9_positionOfBestEffort_6 : decode cX9_positionOfBestEffort 6 = .ok (.istore_n 2, 1) := by decide +kernel
theorem dX9_positionOfBestEffort_7 : decode cX9_positionOfBestEffort 7 = .ok (.iconst 0, 1) := by decide +kernel
theorem dX9_positionOfBestEffort_8 : decode cX9_positionOfBestEffort 8 = .ok (.istore_n 3, 1) := by decide +kernel
theorem dX9_positionOfBestEffort_9 : decode cX9_positionOfBestEffort 9 = .ok (.iconst 0, 1) := by decide +kernel
theorem dX9_positionOfBestEffort_10 : decode cX9_positionOfBestEffort 10 = .ok (.istore 4, 2) := by decide +kernel
theorem dX9_positionOfBestEffort_12 : decode cX9_positionOfBestEffort 12 = .ok (.iload 4, 2) := by decide +kernel
theorem dX9_positionOfBestEffort_14 : decode cX9_positionOfBestEffort 14 = .ok (.aload_n 0, 1) := by decide +kernel
theorem dX9_positionOfBestEffort_15 : decode cX9_positionOfBestEffort 15 = .ok (.getfield 12, 3) := by decide +kernel
theorem dX9_positionOfBestEffort_18 : decode cX9_positionOfBestEffort 18 = .ok (.getfield 156, 3) := by decide +kernel
theorem dX9_positionOfBestEffort_21 : decode cX9_positionOfBestEffort 21 = .ok (.getfield 160, 3) := by decide +kernel
theorem dX9_positionOfBestEffort_24 : decode cX9_positionOfBestEffort 24 = .ok (.if_icmp .ge 41, 3) := by decide +kernel
theorem dX9_positionOfBestEffort_27 : decode cX9_positionOfBestEffort 27 = .ok (.aload_n 0, 1) := by decide +kernel
theorem dX9_positionOfBestEffort_28 : decode cX9_positionOfBestEffort 28 = .ok (.aload_n 0, 1) := by decide +kernel
theorem dX9_positionOfBestEffort_29 : decode cX9_positionOfBestEffort 29 = .ok (.getfield 12, 3) := by decide +kernel
theorem dX9_positionOfBestEffort_32 : decode cX9_positionOfBestEffort 32 = .ok (.getfield 156, 3) := by decide +kernel
theorem dX9_positionOfBestEffort_35 : decode cX9_positionOfBestEffort 35 = .ok (.getfield 205, 3) := by decide +kernel
theorem dX9_positionOfBestEffort_38 : decode cX9_positionOfBestEffort 38 = .ok (.iload 4, 2) := by decide +kernel
theorem dX9_positionOfBestEffort_40 : decode cX9_positionOfBestEffort 40 = .ok (.aaload, 1) := by decide +kernel
theorem dX9_positionOfBestEffort_41 : decode cX9_positionOfBestEffort 41 = .ok (.iload_n 1, 1) := by decide +kernel
theorem dX9_positionOfBestEffort_42 : decode cX9_positionOfBestEffort 42 = .ok (.invokevirtual 271, 3) := by decide +kernel
theorem dX9_positionOfBestEffort_45 : decode cX9_positionOfBestEffort 45 = .ok (.istore 5, 2) := by decide +kernel
theorem dX9_positionOfBestEffort_47 : decode cX9_positionOfBestEffort 47 = .ok (.iload 5, 2) := by decide +kernel
theorem dX9_positionOfBestEffort_49 : decode cX9_positionOfBestEffort 49 = .ok (.iload_n 2, 1) := by decide +kernel
theorem dX9_positionOfBestEffort_50 : decode cX9_positionOfBestEffort 50 = .ok (.if_icmp .le 9, 3) := by decide +kernel
theorem dX9_positionOfBestEffort_53 : decode cX9_positionOfBestEffort 53 = .ok (.iload 5, 2) := by decide +kernel
theorem dX9_positionOfBestEffort_55 : decode cX9_positionOfBestEffort 55 = .ok (.istore_n 2, 1) := by decide +kernel
theorem dX9_positionOfBestEffort_56 : decode cX9_positionOfBestEffort 56 = .ok (.iload 4, 2) := by decide +kernel
theorem dX9_positionOfBestEffort_58 : decode cX9_positionOfBestEffort 58 = .ok (.istore_n 3, 1) := by decide +kernel
theorem dX9_positionOfBestEffort_59 : decode cX9_positionOfBestEffort 59 = .ok (.iinc 4 1, 3) := by decide +kernel
theorem dX9_positionOfBestEffort_62 : decode cX9_positionOfBestEffort 62 = .ok (.goto (-50), 3) := by decide +kernel
theorem dX9_positionOfBestEffort_65 : decode cX9_positionOfBestEffort 65 = .ok (.iload_n 3, 1) := by decide +kernel
theorem dX9_positionOfBestEffort_66 : decode cX9_positionOfBestEffort 66 = .ok (.ireturn, 1) := by decide +kernel
theorem dX9_effortBySums_0 : decode cX9_effortBySums 0 = .ok (.aload_n 1, 1) := by decide +kernel
theorem dX9_effortBySums_1 : decode cX9_effortBySums 1 = .ok (.aload_n 0, 1) := by decide +kernel
theorem dX9_effortBySums_2 : decode cX9_effortBySums 2 = .ok (.getfield 62, 3) := by decide +kernel
theorem dX9_effortBySums_5 : decode cX9_effortBySums 5 = .ok (.invokevirtual 364, 3) := by decide +kernel
theorem dX9_effortBySums_8 : decode cX9_effortBySums 8 = .ok (.istore_n 3, 1) := by decide +kernel
theorem dX9_effortBySums_9 : decode cX9_effortBySums 9 = .ok (.iconst 0, 1) := by decide +kernel
theorem dX9_effortBySums_10 : decode cX9_effortBySums 10 = .ok (.istore 4, 2) := by decide +kernel
theorem dX9_effortBySums_12 : decode cX9_effortBySums 12 = .ok (.iconst 0, 1) := by decide +kernel
theorem dX9_effortBySums_13 : decode cX9_effortBySums 13 = .ok (.istore 5, 2) := by decide +kernel
theorem dX9_effortBySums_15 : decode cX9_effortBySums 15 = .ok (.iload 5, 2) := by decide +kernel
theorem dX9_effortBySums_17 : decode cX9_effortBySums 17 = .ok (.iload_n 3, 1) := by decide +kernel
theorem dX9_effortBySums_18 : decode cX9_effortBySums 18 = .ok (.if_icmp .gt 34, 3) := by decide +kernel
theorem dX9_effortBySums_21 : decode cX9_effortBySums 21 = .ok (.aload_n 0, 1) := by decide +kernel
theorem dX9_effortBySums_22 : decode cX9_effortBySums 22 = .ok (.getfield 62, 3) := by decide +kernel
theorem dX9_effortBySums_25 : decode cX9_effortBySums 25 = .ok (.iload 5, 2) := by decide +kernel
theorem dX9_effortBySums_27 : decode cX9_effortBySums 27 = .ok (.iaload, 1) := by decide +kernel
theorem dX9_effortBySums_28 : decode cX9_effortBySums 28 = .ok (.istore 6, 2) := by decide +kernel
theorem dX9_effortBySums_30 : decode cX9_effortBySums 30 = .ok (.aload_n 0, 1) := by decide +kernel
theorem dX9_effortBySums_31 : decode cX9_effortBySums 31 = .ok (.getfield 62, 3) := by decide +kernel
theorem dX9_effortBySums_34 : decode cX9_effortBySums 34 = .ok (.iload 5, 2) := by decide +kernel
theorem dX9_effortBySums_36 : decode cX9_effortBySums 36 = .ok (.iload 4, 2) := by decide +kernel
theorem dX9_effortBySums_38 : decode cX9_effortBySums 38 = .ok (.iastore, 1) := by decide +kernel
theorem dX9_effortBySums_39 : decode cX9_effortBySums 39 = .ok (.iload 4, 2) := by decide +kernel
theorem dX9_effortBySums_41 : decode cX9_effortBySums 41 = .ok (.iload 6, 2) := by decide +kernel
theorem dX9_effortBySums_43 : decode cX9_effortBySums 43 = .ok (.iadd, 1) := by decide +kernel
theorem dX9_effortBySums_44 : decode cX9_effortBySums 44 = .ok (.istore 4, 2) := by decide +kernel
theorem dX9_effortBySums_46 : decode cX9_effortBySums 46 = .ok (.iinc 5 1, 3) := by decide +kernel
theorem dX9_effortBySums_49 : decode cX9_effortBySums 49 = .ok (.goto (-34), 3) := by decide +kernel
theorem dX9_effortBySums_52 : decode cX9_effortBySums 52 = .ok (.iconst (-1), 1) := by decide +kernel
theorem dX9_effortBySums_53 : decode cX9_effortBySums 53 = .ok (.istore 5, 2) := by decide +kernel
theorem dX9_effortBySums_55 : decode cX9_effortBySums 55 = .ok (.iload_n 2, 1) := by decide +kernel
theorem dX9_effortBySums_56 : decode cX9_effortBySums 56 = .ok (.istore 6, 2) := by decide +kernel
theorem dX9_effortBySums_58 : decode cX9_effortBySums 58 = .ok (.iload 6, 2) := by decide +kernel
theorem dX9_effortBySums_60 : decode cX9_effortBySums 60 = .ok (.iload_n 3, 1) := by decide +kernel
theorem dX9_effortBySums_61 : decode cX9_effortBySums 61 = .ok (.if_icmp .gt 33, 3) := by decide +kernel
theorem dX9_effortBySums_64 : decode cX9_effortBySums 64 = .ok (.iload 5, 2) := by decide +kernel
theorem dX9_effortBySums_66 : decode cX9_effortBySums 66 = .ok (.aload_n 0, 1) := by decide +kernel
theorem dX9_effortBySums_67 : decode cX9_effortBySums 67 = .ok (.getfield 62, 3) := by decide +kernel
theorem dX9_effortBySums_70 : decode cX9_effortBySums 70 = .ok (.iload 6, 2) := by decide +kernel
theorem dX9_effortBySums_72 : decode cX9_effortBySums 72 = .ok (.iaload, 1) := by decide +kernel
theorem dX9_effortBySums_73 : decode cX9_effortBySums 73 = .ok (.aload_n 0, 1) := by decide +kernel
theorem dX9_effortBySums_74 : decode cX9_effortBySums 74 = .ok (.getfield 62, 3) := by decide +kernel
theorem dX9_effortBySums_77 : decode cX9_effortBySums 77 = .ok (.iload 6, 2) := by decide +kernel
theorem dX9_effortBySums_79 : decode cX9_effortBySums 79 = .ok (.iload_n 2, 1) := by decide +kernel
theorem dX9_effortBySums_80 : decode cX9_effortBySums 80 = .ok (.isub, 1) := by decide +kernel
theorem dX9_effortBySums_81 : decode cX9_effortBySums 81 = .ok (.iaload, 1) := by decide +kernel
theorem dX9_effortBySums_82 : decode cX9_effortBySums 82 = .ok (.isub, 1) := by decide +kernel
theorem dX9_effortBySums_83 : decode cX9_effortBySums 83 = .ok (.invokestatic 265, 3) := by decide +kernel
theorem dX9_effortBySums_86 : decode cX9_effortBySums 86 = .ok (.istore 5, 2) := by decide +kernel
theorem dX9_effortBySums_88 : decode cX9_effortBySums 88 = .ok (.iinc 6 1, 3) := by decide +kernel
theorem dX9_effortBySums_91 : decode cX9_effortBySums 91 = .ok (.goto (-33), 3) := by decide +kernel
theorem dX9_effortBySums_94 : decode cX9_effortBySums 94 = .ok (.iload 5, 2) := by decide +kernel
theorem dX9_effortBySums_96 : decode cX9_effortBySums 96 = .ok (.ireturn, 1) := by decide +kernel
theorem dX9_effortByTrying_0 : decode cX9_effortByTrying 0 = .ok (.aload_n 1, 1) := by decide +kernel
theorem dX9_effortByTrying_1 : decode cX9_effortByTrying 1 = .ok (.aload_n 0, 1) := by decide +kernel
theorem dX9_effortByTrying_2 : decode cX9_effortByTrying 2 = .ok (.getfield 62, 3) := by decide +kernel
theorem dX9_effortByTrying_5 : decode cX9_effortByTrying 5 = .ok (.invokevirtual 364, 3) := by decide +kernel
theorem dX9_effortByTrying_8 : decode cX9_effortByTrying 8 = .ok (.istore_n 3, 1) := by decide +kernel
theorem dX9_effortByTrying_9 : decode cX9_effortByTrying 9 = .ok (.iconst (-1), 1) := by decide +kernel
theorem dX9_effortByTrying_10 : decode cX9_effortByTrying 10 = .ok (.istore 4, 2) := by decide +kernel
theorem dX9_effortByTrying_12 : decode cX9_effortByTrying 12 = .ok (.iconst 0, 1) := by decide +kernel
theorem dX9_effortByTrying_13 : decode cX9_effortByTrying 13 = .ok (.istore 5, 2) := by decide +kernel
theorem dX9_effortByTrying_15 : decode cX9_effortByTrying 15 = .ok (.iload 5, 2) := by decide +kernel
theorem dX9_effortByTrying_17 : decode cX9_effortByTrying 17 = .ok (.iload_n 2, 1) := by decide +kernel
theorem dX9_effortByTrying_18 : decode cX9_effortByTrying 18 = .ok (.iadd, 1) := by decide +kernel
theorem dX9_effortByTrying_19 : decode cX9_effortByTrying 19 = .ok (.iload_n 3, 1) := by decide +kernel
theorem dX9_effortByTrying_20 : decode cX9_effortByTrying 20 = .ok (.if_icmp .gt 52, 3) := by decide +kernel
theorem dX9_effortByTrying_23 : decode cX9_effortByTrying 23 = .ok (.iconst 0, 1) := by decide +kernel
theorem dX9_effortByTrying_24 : decode cX9_effortByTrying 24 = .ok (.istore 6, 2) := by decide +kernel
theorem dX9_effortByTrying_26 : decode cX9_effortByTrying 26 = .ok (.iload 5, 2) := by decide +kernel
theorem dX9_effortByTrying_28 : decode cX9_effortByTrying 28 = .ok (.istore 7, 2) := by decide +kernel
theorem dX9_effortByTrying_30 : decode cX9_effortByTrying 30 = .ok (.iload 7, 2) := by decide +kernel
theorem dX9_effortByTrying_32 : decode cX9_effortByTrying 32 = .ok (.iload 5, 2) := by decide +kernel
theorem dX9_effortByTrying_34 : decode cX9_effortByTrying 34 = .ok (.iload_n 2, 1) := by decide +kernel
theorem dX9_effortByTrying_35 : decode cX9_effortByTrying 35 = .ok (.iadd, 1) := by decide +kernel
theorem dX9_effortByTrying_36 : decode cX9_effortByTrying 36 = .ok (.if_icmp .ge 21, 3) := by decide +kernel
theorem dX9_effortByTrying_39 : decode cX9_effortByTrying 39 = .ok (.iload 6, 2) := by decide +kernel
theorem dX9_effortByTrying_41 : decode cX9_effortByTrying 41 = .ok (.aload_n 0, 1) := by decide +kernel
theorem dX9_effortByTrying_42 : decode cX9_effortByTrying 42 = .ok (.getfield 62, 3) := by decide +kernel
theorem dX9_effortByTrying_45 : decode cX9_effortByTrying 45 = .ok (.iload 7, 2) := by decide +kernel
theorem dX9_effortByTrying_47 : decode cX9_effortByTrying 47 = .ok (.iaload, 1) := by decide +kernel
theorem dX9_effortByTrying_48 : decode cX9_effortByTrying 48 = .ok (.iadd, 1) := by decide +kernel
theorem dX9_effortByTrying_49 : decode cX9_effortByTrying 49 = .ok (.istore 6, 2) := by decide +kernel
theorem dX9_effortByTrying_51 : decode cX9_effortByTrying 51 = .ok (.iinc 7 1, 3) := by decide +kernel
theorem dX9_effortByTrying_54 : decode cX9_effortByTrying 54 = .ok (.goto (-24), 3) := by decide +kernel
theorem dX9_effortByTrying_57 : decode cX9_effortByTrying 57 = .ok (.iload 4, 2) := by decide +kernel
theorem dX9_effortByTrying_59 : decode cX9_effortByTrying 59 = .ok (.iload 6, 2) := by decide +kernel
theorem dX9_effortByTrying_61 : decode cX9_effortByTrying 61 = .ok (.invokestatic 265, 3) := by decide +kernel
theorem dX9_effortByTrying_64 : decode cX9_effortByTrying 64 = .ok (.istore 4, 2) := by decide +kernel
theorem dX9_effortByTrying_66 : decode cX9_effortByTrying 66 = .ok (.iinc 5 1, 3) := by decide +kernel
theorem dX9_effortByTrying_69 : decode cX9_effortByTrying 69 = .ok (.goto (-54), 3) := by decide +kernel
theorem dX9_effortByTrying_72 : decode cX9_effortByTrying 72 = .ok (.iload 4, 2) := by decide +kernel
theorem dX9_effortByTrying_74 : decode cX9_effortByTrying 74 = .ok (.ireturn, 1) := by decide +kernel
theorem dX9_followPlan_0 : decode cX9_followPlan 0 = .ok (.aload_n 0, 1) := by decide +kernel
theorem dX9_followPlan_1 : decode cX9_followPlan 1 = .ok (.getfield 12, 3) := by decide +kernel
theorem dX9_followPlan_4 : decode cX9_followPlan 4 = .ok (.aload_n 0, 1) := by decide +kernel
theorem dX9_followPlan_5 : decode cX9_followPlan 5 = .ok (.getfield 52, 3) := by decide +kernel
theorem dX9_followPlan_8 : decode cX9_followPlan 8 = .ok (.invokevirtual 223, 3) := by decide +kernel
theorem dX9_followPlan_11 : decode cX9_followPlan 11 = .ok (.aload_n 0, 1) := by decide +kernel
theorem dX9_followPlan_12 : decode cX9_followPlan 12 = .ok (.getfield 48, 3) := by decide +kernel
theorem dX9_followPlan_15 : decode cX9_followPlan 15 = .ok (.aload_n 0, 1) := by decide +kernel
theorem dX9_followPlan_16 : decode cX9_followPlan 16 = .ok (.getfield 12, 3) := by decide +kernel
theorem dX9_followPlan_19 : decode cX9_followPlan 19 = .ok (.getfield 281, 3) := by decide +kernel
theorem dX9_followPlan_22 : decode cX9_followPlan 22 = .ok (.aload_n 0, 1) := by decide +kernel
theorem dX9_followPlan_23 : decode cX9_followPlan 23 = .ok (.getfield 12, 3) := by decide +kernel
theorem dX9_followPlan_26 : decode cX9_followPlan 26 = .ok (.getfield 69, 3) := by decide +kernel
theorem dX9_followPlan_29 : decode cX9_followPlan 29 = .ok (.aload_n 0, 1) := by decide +kernel
theorem dX9_followPlan_30 : decode cX9_followPlan 30 = .ok (.getfield 52, 3) := by decide +kernel
theorem dX9_followPlan_33 : decode cX9_followPlan 33 = .ok (.invokevirtual 367, 3) := by decide +kernel
theorem dX9_followPlan_36 : decode cX9_followPlan 36 = .ok (.return_, 1) := by decide +kernel
theorem dX9_existingDueEntry_0 : decode cX9_existingDueEntry 0 = .ok (.aload_n 0, 1) := by decide +kernel
theorem dX9_existingDueEntry_1 : decode cX9_existingDueEntry 1 = .ok (.invokevirtual 311, 3) := by decide +kernel
theorem dX9_existingDueEntry_4 : decode cX9_existingDueEntry 4 = .ok (.aload_n 0, 1) := by decide +kernel
theorem dX9_existingDueEntry_5 : decode cX9_existingDueEntry 5 = .ok (.getfield 48, 3) := by decide +kernel
theorem dX9_existingDueEntry_8 : decode cX9_existingDueEntry 8 = .ok (.getfield 320, 3) := by decide +kernel
theorem dX9_existingDueEntry_11 : decode cX9_existingDueEntry 11 = .ok (.aload_n 0, 1) := by decide +kernel
theorem dX9_existingDueEntry_12 : decode cX9_existingDueEntry 12 = .ok (.getfield 12, 3) := by decide +kernel
theorem dX9_existingDueEntry_15 : decode cX9_existingDueEntry 15 = .ok (.getfield 281, 3) := by decide +kernel
theorem dX9_existingDueEntry_18 : decode cX9_existingDueEntry 18 = .ok (.getfield 285, 3) := by decide +kernel
theorem dX9_existingDueEntry_21 : decode cX9_existingDueEntry 21 = .ok (.if_icmp .lt 14, 3) := by decide +kernel
theorem dX9_existingDueEntry_24 : decode cX9_existingDueEntry 24 = .ok (.new 117, 3) := by decide +kernel
theorem dX9_existingDueEntry_27 : decode cX9_existingDueEntry 27 = .ok (.dup, 1) := by decide +kernel
theorem dX9_existingDueEntry_28 : decode cX9_existingDueEntry 28 = .ok (.ldc_w 371, 3) := by decide +kernel
theorem dX9_existingDueEntry_31 : decode cX9_existingDueEntry 31 = .ok (.invokespecial 121, 3) := by decide +kernel
theorem dX9_existingDueEntry_34 : decode cX9_existingDueEntry 34 = .ok (.athrow, 1) := by decide +kernel
theorem dX9_existingDueEntry_35 : decode cX9_existingDueEntry 35 = .ok (.aload_n 0, 1) := by decide +kernel
theorem dX9_existingDueEntry_36 : decode cX9_existingDueEntry 36 = .ok (.getfield 48, 3) := by decide +kernel
theorem dX9_existingDueEntry_39 : decode cX9_existingDueEntry 39 = .ok (.getfield 320, 3) := by decide +kernel
theorem dX9_existingDueEntry_42 : decode cX9_existingDueEntry 42 = .ok (.ireturn, 1) := by decide +kernel
theorem dX9_signOfDay_0 : decode cX9_signOfDay 0 = .ok (.iload_n 1, 1) := by decide +kernel
theorem dX9_signOfDay_1 : decode cX9_signOfDay 1 = .ok (.aload_n 0, 1) := by decide +kernel
theorem dX9_signOfDay_2 : decode cX9_signOfDay 2 = .ok (.getfield 12, 3) := by decide +kernel
theorem dX9_signOfDay_5 : decode cX9_signOfDay 5 = .ok (.getfield 69, 3) := by decide +kernel
theorem dX9_signOfDay_8 : decode cX9_signOfDay 8 = .ok (.if_icmp .le 6, 3) := by decide +kernel
theorem dX9_signOfDay_11 : decode cX9_signOfDay 11 = .ok (.bipush 45, 2) := by decide +kernel
theorem dX9_signOfDay_13 : decode cX9_signOfDay 13 = .ok (.ireturn, 1) := by decide +kernel
theorem dX9_signOfDay_14 : decode cX9_signOfDay 14 = .ok (.aload_n 0, 1) := by decide +kernel
theorem dX9_signOfDay_15 : decode cX9_signOfDay 15 = .ok (.getfield 12, 3) := by decide +kernel
theorem dX9_signOfDay_18 : decode cX9_signOfDay 18 = .ok (.getfield 156, 3) := by decide +kernel
theorem dX9_signOfDay_21 : decode cX9_signOfDay 21 = .ok (.iload_n 1, 1) := by decide +kernel
theorem dX9_signOfDay_22 : decode cX9_signOfDay 22 = .ok (.invokevirtual 373, 3) := by decide +kernel
theorem dX9_signOfDay_25 : decode cX9_signOfDay 25 = .ok (.ifCond .ne 6, 3) := by decide +kernel
theorem dX9_signOfDay_28 : decode cX9_signOfDay 28 = .ok (.bipush 46, 2) := by decide +kernel
theorem dX9_signOfDay_30 : decode cX9_signOfDay 30 = .ok (.ireturn, 1) := by decide +kernel
theorem dX9_signOfDay_31 : decode cX9_signOfDay 31 = .ok (.aload_n 0, 1) := by decide +kernel
theorem dX9_signOfDay_32 : decode cX9_signOfDay 32 = .ok (.getfield 59, 3) := by decide +kernel
theorem dX9_signOfDay_35 : decode cX9_signOfDay 35 = .ok (.invokestatic 212, 3) := by decide +kernel
theorem dX9_signOfDay_38 : decode cX9_signOfDay 38 = .ok (.iconst 0, 1) := by decide +kernel
theorem dX9_signOfDay_39 : decode cX9_signOfDay 39 = .ok (.istore_n 2, 1) := by decide +kernel
theorem dX9_signOfDay_40 : decode cX9_signOfDay 40 = .ok (.iload_n 2, 1) := by decide +kernel
theorem dX9_signOfDay_41 : decode cX9_signOfDay 41 = .ok (.aload_n 0, 1) := by decide +kernel
theorem dX9_signOfDay_42 : decode cX9_signOfDay 42 = .ok (.getfield 12, 3) := by decide +kernel
theorem dX9_signOfDay_45 : decode cX9_signOfDay 45 = .ok (.getfield 156, 3) := by decide +kernel
theorem dX9_signOfDay_48 : decode cX9_signOfDay 48 = .ok (.getfield 160, 3) := by decide +kernel
theorem dX9_signOfDay_51 : decode cX9_signOfDay 51 = .ok (.if_icmp .ge 42, 3) := by decide +kernel
theorem dX9_signOfDay_54 : decode cX9_signOfDay 54 = .ok (.aload_n 0, 1) := by decide +kernel
theorem dX9_signOfDay_55 : decode cX9_signOfDay 55 = .ok (.getfield 12, 3) := by decide +kernel
theorem dX9_signOfDay_58 : decode cX9_signOfDay 58 = .ok (.getfield 156, 3) := by decide +kernel
theorem dX9_signOfDay_61 : decode cX9_signOfDay 61 = .ok (.getfield 205, 3) := by decide +kernel
theorem dX9_signOfDay_64 : decode cX9_signOfDay 64 = .ok (.iload_n 2, 1) := by decide +kernel
theorem dX9_signOfDay_65 : decode cX9_signOfDay 65 = .ok (.aaload, 1) := by decide +kernel
theorem dX9_signOfDay_66 : decode cX9_signOfDay 66 = .ok (.astore_n 3, 1) := by decide +kernel
theorem dX9_signOfDay_67 : decode cX9_signOfDay 67 = .ok (.aload_n 3, 1) := by decide +kernel
theorem dX9_signOfDay_68 : decode cX9_signOfDay 68 = .ok (.getfield 184, 3) := by decide +kernel
theorem dX9_signOfDay_71 : decode cX9_signOfDay 71 = .ok (.iload_n 1, 1) := by decide +kernel
theorem dX9_signOfDay_72 : decode cX9_signOfDay 72 = .ok (.if_icmp .ne 15, 3) := by decide +kernel
theorem dX9_signOfDay_75 : decode cX9_signOfDay 75 = .ok (.aload_n 0, 1) := by decide +kernel
theorem dX9_signOfDay_76 : decode cX9_signOfDay 76 = .ok (.getfield 12, 3) := by decide +kernel
theorem dX9_signOfDay_79 : decode cX9_signOfDay 79 = .ok (.aload_n 3, 1) := by decide +kernel
theorem dX9_signOfDay_80 : decode cX9_signOfDay 80 = .ok (.aload_n 0, 1) := by decide +kernel
theorem dX9_signOfDay_81 : decode cX9_signOfDay 81 = .ok (.getfield 59, 3) := by decide +kernel
theorem dX9_signOfDay_84 : decode cX9_signOfDay 84 = .ok (.invokevirtual 215, 3) := by decide +kernel
theorem dX9_signOfDay_87 : decode cX9_signOfDay 87 = .ok (.iinc 2 1, 3) := by decide +kernel
theorem dX9_signOfDay_90 : decode cX9_signOfDay 90 = .ok (.goto (-50), 3) := by decide +kernel
theorem dX9_signOfDay_93 : decode cX9_signOfDay 93 = .ok (.iconst 0, 1) := by decide +kernel
theorem dX9_signOfDay_94 : decode cX9_signOfDay 94 = .ok (.istore_n 2, 1) := by decide +kernel
theorem dX9_signOfDay_95 : decode cX9_signOfDay 95 = .ok (.iconst 1, 1) := by decide +kernel
theorem dX9_signOfDay_96 : decode cX9_signOfDay 96 = .ok (.istore_n 3, 1) := by decide +kernel
theorem dX9_signOfDay_97 : decode cX9_signOfDay 97 = .ok (.iload_n 3, 1) := by decide +kernel
theorem dX9_signOfDay_98 : decode cX9_signOfDay 98 = .ok (.iconst 5, 1) := by decide +kernel
theorem dX9_signOfDay_99 : decode cX9_signOfDay 99 = .ok (.if_icmp .gt 26, 3) := by decide +kernel
theorem dX9_signOfDay_102 : decode cX9_signOfDay 102 = .ok (.aload_n 0, 1) := by decide +kernel
theorem dX9_signOfDay_103 : decode cX9_signOfDay 103 = .ok (.getfield 59, 3) := by decide +kernel
theorem dX9_signOfDay_106 : decode cX9_signOfDay 106 = .ok (.iload_n 3, 1) := by decide +kernel
theorem dX9_signOfDay_107 : decode cX9_signOfDay 107 = .ok (.iaload, 1) := by decide +kernel
theorem dX9_signOfDay_108 : decode cX9_signOfDay 108 = .ok (.aload_n 0, 1) := by decide +kernel
theorem dX9_signOfDay_109 : decode cX9_signOfDay 109 = .ok (.getfield 59, 3) := by decide +kernel
theorem dX9_signOfDay_112 : decode cX9_signOfDay 112 = .ok (.iload_n 2, 1) := by decide +kernel
theorem dX9_signOfDay_113 : decode cX9_signOfDay 113 = .ok (.iaload, 1) := by decide +kernel
theorem dX9_signOfDay_114 : decode cX9_signOfDay 114 = .ok (.if_icmp .le 5, 3) := by decide +kernel
theorem dX9_signOfDay_117 : decode cX9_signOfDay 117 = .ok (.iload_n 3, 1) := by decide +kernel
theorem dX9_signOfDay_118 : decode cX9_signOfDay 118 = .ok (.istore_n 2, 1) := by decide +kernel
theorem dX9_signOfDay_119 : decode cX9_signOfDay 119 = .ok (.iinc 3 1, 3) := by decide +kernel
theorem dX9_signOfDay_122 : decode cX9_signOfDay 122 = .ok (.goto (-25), 3) := by decide +kernel
theorem dX9_signOfDay_125 : decode cX9_signOfDay 125 = .ok (.bipush 48, 2) := by decide +kernel
theorem dX9_signOfDay_127 : decode cX9_signOfDay 127 = .ok (.iload_n 2, 1) := by decide +kernel
theorem dX9_signOfDay_128 : decode cX9_signOfDay 128 = .ok (.iadd, 1) := by decide +kernel
theorem dX9_signOfDay_129 : decode cX9_signOfDay 129 = .ok (.i2c, 1) := by decide +kernel
theorem dX9_signOfDay_130 : decode cX9_signOfDay 130 = .ok (.ireturn, 1) := by decide +kernel
theorem dX10_init_0 : decode cX10_init 0 = .ok (.aload_n 0, 1) := by decide +kernel
theorem dX10_init_1 : decode cX10_init 1 = .ok (.invokespecial 3, 3) := by decide +kernel
theorem dX10_init_4 : decode cX10_init 4 = .ok (.aload_n 0, 1) := by decide +kernel
theorem dX10_init_5 : decode cX10_init 5 = .ok (.sipush 830, 3) := by decide +kernel
theorem dX10_init_8 : decode cX10_init 8 = .ok (.newarray .int, 2) := by decide +kernel
theorem dX10_init_10 : decode cX10_init 10 = .ok (.putfield 9, 3) := by decide +kernel
theorem dX10_init_13 : decode cX10_init 13 = .ok (.aload_n 0, 1) := by decide +kernel
theorem dX10_init_14 : decode cX10_init 14 = .ok (.bipush 6, 2) := by decide +kernel
theorem dX10_init_16 : decode cX10_init 16 = .ok (.sipush 830, 3) := by decide +kernel
theorem dX10_init_19 : decode cX10_init 19 = .ok (.multianewarray 13 2, 4) := by decide +kernel
theorem dX10_init_23 : decode cX10_init 23 = .ok (.putfield 15, 3) := by decide +kernel
theorem dX10_init_26 : decode cX10_init 26 = .ok (.aload_n 0, 1) := by decide +kernel
theorem dX10_init_27 : decode cX10_init 27 = .ok (.sipush 830, 3) := by decide +kernel
theorem dX10_init_30 : decode cX10_init 30 = .ok (.newarray .int, 2) := by decide +kernel
theorem dX10_init_32 : decode cX10_init 32 = .ok (.putfield 18, 3) := by decide +kernel
theorem dX10_init_35 : decode cX10_init 35 = .ok (.aload_n 0, 1) := by decide +kernel
theorem dX10_init_36 : decode cX10_init 36 = .ok (.sipush 200, 3) := by decide +kernel
theorem dX10_init_39 : decode cX10_init 39 = .ok (.newarray .int, 2) := by decide +kernel
theorem dX10_init_41 : decode cX10_init 41 = .ok (.putfield 21, 3) := by decide +kernel
theorem dX10_init_44 : decode cX10_init 44 = .ok (.aload_n 0, 1) := by decide +kernel
theorem dX10_init_45 : decode cX10_init 45 = .ok (.bipush 6, 2) := by decide +kernel
theorem dX10_init_47 : decode cX10_init 47 = .ok (.newarray .int, 2) := by decide +kernel
theorem dX10_init_49 : decode cX10_init 49 = .ok (.putfield 24, 3) := by decide +kernel
theorem dX10_init_52 : decode cX10_init 52 = .ok (.aload_n 0, 1) := by decide +kernel
theorem dX10_init_53 : decode cX10_init 53 = .ok (.bipush 13, 2) := by decide +kernel
theorem dX10_init_55 : decode cX10_init 55 = .ok (.newarray .char, 2) := by decide +kernel
theorem dX10_init_57 : decode cX10_init 57 = .ok (.putfield 27, 3) := by decide +kernel
theorem dX10_init_60 : decode cX10_init 60 = .ok (.iconst 2, 1) := by decide +kernel
theorem dX10_init_61 : decode cX10_init 61 = .ok (.istore_n 1, 1) := by decide +kernel
theorem dX10_init_62 : decode cX10_init 62 = .ok (.iload_n 1, 1) := by decide +kernel
theorem dX10_init_63 : decode cX10_init 63 = .ok (.iconst 5, 1) := by decide +kernel
theorem dX10_init_64 : decode cX10_init 64 = .ok (.if_icmp .gt 25, 3) := by decide +kernel
theorem dX10_init_67 : decode cX10_init 67 = .ok (.aload_n 0, 1) := by decide +kernel
theorem dX10_init_68 : decode cX10_init 68 = .ok (.getfield 9, 3) := by decide +kernel
theorem dX10_init_71 : decode cX10_init 71 = .ok (.bipush 8, 2) := by decide +kernel
theorem dX10_init_73 : decode cX10_init 73 = .ok (.iload_n 1, 1) := by decide +kernel
theorem dX10_init_74 : decode cX10_init 74 = .ok (.iadd, 1) := by decide +kernel
theorem dX10_init_75 : decode cX10_init 75 = .ok (.bipush 60, 2) := by decide +kernel
theorem dX10_init_77 : decode cX10_init 77 = .ok (.bipush 10, 2) := by decide +kernel
theorem dX10_init_79 : decode cX10_init 79 = .ok (.iload_n 1, 1) := by decide +kernel
theorem dX10_init_80 : decode cX10_init 80 = .ok (.imul, 1) := by decide +kernel
theorem dX10_init_81 : decode cX10_init 81 = .ok (.iadd, 1) := by decide +kernel
theorem dX10_init_82 : decode cX10_init 82 = .ok (.iastore, 1) := by decide +kernel
theorem dX10_init_83 : decode cX10_init 83 = .ok (.iinc 1 1, 3) := by decide +kernel
theorem dX10_init_86 : decode cX10_init 86 = .ok (.goto (-24), 3) := by decide +kernel
theorem dX10_init_89 : decode cX10_init 89 = .ok (.aload_n 0, 1) := by decide +kernel
theorem dX10_init_90 : decode cX10_init 90 = .ok (.getfield 9, 3) := by decide +kernel
theorem dX10_init_93 : decode cX10_init 93 = .ok (.bipush 15, 2) := by decide +kernel
theorem dX10_init_95 : decode cX10_init 95 = .ok (.iconst 1, 1) := by decide +kernel
theorem dX10_init_96 : decode cX10_init 96 = .ok (.iastore, 1) := by decide +kernel
theorem dX10_init_97 : decode cX10_init 97 = .ok (.aload_n 0, 1) := by decide +kernel
theorem dX10_init_98 : decode cX10_init 98 = .ok (.getfield 9, 3) := by decide +kernel
theorem dX10_init_101 : decode cX10_init 101 = .ok (.bipush 16, 2) := by decide +kernel
theorem dX10_init_103 : decode cX10_init 103 = .ok (.iconst 2, 1) := by decide +kernel
theorem dX10_init_104 : decode cX10_init 104 = .ok (.iastore, 1) := by decide +kernel
theorem dX10_init_105 : decode cX10_init 105 = .ok (.aload_n 0, 1) := by decide +kernel
theorem dX10_init_106 : decode cX10_init 106 = .ok (.getfield 9, 3) := by decide +kernel
theorem dX10_init_109 : decode cX10_init 109 = .ok (.bipush 17, 2) := by decide +kernel
theorem dX10_init_111 : decode cX10_init 111 = .ok (.iconst 3, 1) := by decide +kernel
theorem dX10_init_112 : decode cX10_init 112 = .ok (.iastore, 1) := by decide +kernel
theorem dX10_init_113 : decode cX10_init 113 = .ok (.aload_n 0, 1) := by decide +kernel
theorem dX10_init_114 : decode cX10_init 114 = .ok (.getfield 9, 3) := by decide +kernel
theorem dX10_init_117 : decode cX10_init 117 = .ok (.bipush 18, 2) := by decide +kernel
theorem dX10_init_119 : decode cX10_init 119 = .ok (.iconst 5, 1) := by decide +kernel
theorem dX10_init_120 : decode cX10_init 120 = .ok (.iastore, 1) := by decide +kernel
theorem dX10_init_121 : decode cX10_init 121 = .ok (.aload_n 0, 1) := by decide +kernel
theorem dX10_init_122 : decode cX10_init 122 = .ok (.getfield 9, 3) := by decide +kernel
theorem dX10_init_125 : decode cX10_init 125 = .ok (.bipush 19, 2) := by decide +kernel
theorem dX10_init_127 : decode cX10_init 127 = .ok (.bipush 8, 2) := by decide +kernel
theorem dX10_init_129 : decode cX10_init 129 = .ok (.iastore, 1) := by decide +kernel
theorem dX10_init_130 : decode cX10_init 130 = .ok (.return_, 1) := by decide +kernel
theorem dX10_thrown_0 : decode cX10_thrown 0 = .ok (.aload_n 0, 1) := by decide +kernel
theorem dX10_thrown_1 : decode cX10_thrown 1 = .ok (.getfield 31, 3) := by decide +kernel
theorem dX10_thrown_4 : decode cX10_thrown 4 = .ok (.ireturn, 1) := by decide +kernel
theorem dX10_isIn_0 : decode cX10_isIn 0 = .ok (.iload_n 0, 1) := by decide +kernel
theorem dX10_isIn_1 : decode cX10_isIn 1 = .ok (.iload_n 1, 1) := by decide +kernel
theorem dX10_isIn_2 : decode cX10_isIn 2 = .ok (.if_icmp .lt 12, 3) := by decide +kernel
theorem dX10_isIn_5 : decode cX10_isIn 5 = .ok (.iload_n 0, 1) := by decide +kernel
theorem dX10_isIn_6 : decode cX10_isIn 6 = .ok (.iload_n 2, 1) := by decide +kernel
theorem dX10_isIn_7 : decode cX10_isIn 7 = .ok (.if_icmp .gt 7, 3) := by decide +kernel
theorem dX10_isIn_10 : decode cX10_isIn 10 = .ok (.iconst 1, 1) := by decide +kernel
theorem dX10_isIn_11 : decode cX10_isIn 11 = .ok (.goto 4, 3) := by decide +kernel
theorem dX10_isIn_14 : decode cX10_isIn 14 = .ok (.iconst 0, 1) := by decide +kernel
theorem dX10_isIn_15 : decode cX10_isIn 15 = .ok (.ireturn, 1) := by decide +kernel
theorem dX10_isThrown_0 : decode cX10_isThrown 0 = .ok (.aload_n 0, 1) := by decide +kernel
theorem dX10_isThrown_1 : decode cX10_isThrown 1 = .ok (.iload_n 1, 1) := by decide +kernel
theorem dX10_isThrown_2 : decode cX10_isThrown 2 = .ok (.ifCond .eq 7, 3) := by decide +kernel
theorem dX10_isThrown_5 : decode cX10_isThrown 5 = .ok (.iload_n 2, 1) := by decide +kernel
theorem dX10_isThrown_6 : decode cX10_isThrown 6 = .ok (.goto 4, 3) := by decide +kernel
theorem dX10_isThrown_9 : decode cX10_isThrown 9 = .ok (.iconst 0, 1) := by decide +kernel
theorem dX10_isThrown_10 : decode cX10_isThrown 10 = .ok (.putfield 31, 3) := by decide +kernel
theorem dX10_isThrown_13 : decode cX10_isThrown 13 = .ok (.iload_n 1, 1) := by decide +kernel
theorem dX10_isThrown_14 : decode cX10_isThrown 14 = .ok (.ireturn, 1) := by decide +kernel
theorem dX10_keeps_0 : decode cX10_keeps 0 = .ok (.aload_n 0, 1) := by decide +kernel
theorem dX10_keeps_1 : decode cX10_keeps 1 = .ok (.aload_n 0, 1) := by decide +kernel
theorem dX10_keeps_2 : decode cX10_keeps 2 = .ok (.getfield 35, 3) := by decide +kernel
theorem dX10_keeps_5 : decode cX10_keeps 5 = .ok (.iconst 1, 1) := by decide +kernel
theorem dX10_keeps_6 : decode cX10_keeps 6 = .ok (.iadd, 1) := by decide +kernel
theorem dX10_keeps_7 : decode cX10_keeps 7 = .ok (.bipush 6, 2) := by decide +kernel
theorem dX10_keeps_9 : decode cX10_keeps 9 = .ok (.irem, 1) := by decide +kernel
theorem dX10_keeps_10 : decode cX10_keeps 10 = .ok (.putfield 35, 3) := by decide +kernel
theorem dX10_keeps_13 : decode cX10_keeps 13 = .ok (.iconst 0, 1) := by decide +kernel
theorem dX10_keeps_14 : decode cX10_keeps 14 = .ok (.istore_n 1, 1) := by decide +kernel
theorem dX10_keeps_15 : decode cX10_keeps 15 = .ok (.iload_n 1, 1) := by decide +kernel
theorem dX10_keeps_16 : decode cX10_keeps 16 = .ok (.sipush 830, 3) := by decide +kernel
theorem dX10_keeps_19 : decode cX10_keeps 19 = .ok (.if_icmp .ge 26, 3) := by decide +kernel
theorem dX10_keeps_22 : decode cX10_keeps 22 = .ok (.aload_n 0, 1) := by decide +kernel
theorem dX10_keeps_23 : decode cX10_keeps 23 = .ok (.getfield 15, 3) := by decide +kernel
theorem dX10_keeps_26 : decode cX10_keeps 26 = .ok (.aload_n 0, 1) := by decide +kernel
theorem dX10_keeps_27 : decode cX10_keeps 27 = .ok (.getfield 35, 3) := by decide +kernel
theorem dX10_keeps_30 : decode cX10_keeps 30 = .ok (.aaload, 1) := by decide +kernel
theorem dX10_keeps_31 : decode cX10_keeps 31 = .ok (.iload_n 1, 1) := by decide +kernel
theorem dX10_keeps_32 : decode cX10_keeps 32 = .ok (.aload_n 0, 1) := by decide +kernel
theorem dX10_keeps_33 : decode cX10_keeps 33 = .ok (.getfield 9, 3) := by decide +kernel
theorem dX10_keeps_36 : decode cX10_keeps 36 = .ok (.iload_n 1, 1) := by decide +kernel
theorem dX10_keeps_37 : decode cX10_keeps 37 = .ok (.iaload, 1) := by decide +kernel
theorem dX10_keeps_38 : decode cX10_keeps 38 = .ok (.iastore, 1) := by decide +kernel
theorem dX10_keeps_39 : decode cX10_keeps 39 = .ok (.iinc 1 1, 3) := by decide +kernel
theorem dX10_keeps_42 : decode cX10_keeps 42 = .ok (.goto (-27), 3) := by decide +kernel
theorem dX10_keeps_45 : decode cX10_keeps 45 = .ok (.aload_n 0, 1) := by decide +kernel
theorem dX10_keeps_46 : decode cX10_keeps 46 = .ok (.bipush 6, 2) := by decide +kernel
theorem dX10_keeps_48 : decode cX10_keeps 48 = .ok (.aload_n 0, 1) := by decide +kernel
theorem dX10_keeps_49 : decode cX10_keeps 49 = .ok (.getfield 38, 3) := by decide +kernel
theorem dX10_keeps_52 : decode cX10_keeps 52 = .ok (.iconst 1, 1) := by decide +kernel
theorem dX10_keeps_53 : decode cX10_keeps 53 = .ok (.iadd, 1) := by decide +kernel
theorem dX10_keeps_54 : decode cX10_keeps 54 = .ok (.invokestatic 41, 3) := by decide +kernel
theorem dX10_keeps_57 : decode cX10_keeps 57 = .ok (.putfield 38, 3) := by decide +kernel
theorem dX10_keeps_60 : decode cX10_keeps 60 = .ok (.return_, 1) := by decide +kernel
theorem dX10_isNoDay_0 : decode cX10_isNoDay 0 = .ok (.iload_n 1, 1) := by decide +kernel
theorem dX10_isNoDay_1 : decode cX10_isNoDay 1 = .ok (.iconst 0, 1) := by decide +kernel
theorem dX10_isNoDay_2 : decode cX10_isNoDay 2 = .ok (.aload_n 0, 1) := by decide +kernel
theorem dX10_isNoDay_3 : decode cX10_isNoDay 3 = .ok (.getfield 9, 3) := by decide +kernel
theorem dX10_isNoDay_6 : decode cX10_isNoDay 6 = .ok (.iconst 0, 1) := by decide +kernel
theorem dX10_isNoDay_7 : decode cX10_isNoDay 7 = .ok (.iaload, 1) := by decide +kernel
theorem dX10_isNoDay_8 : decode cX10_isNoDay 8 = .ok (.invokestatic 47, 3) := by decide +kernel
theorem dX10_isNoDay_11 : decode cX10_isNoDay 11 = .ok (.ifCond .ne 7, 3) := by decide +kernel
theorem dX10_isNoDay_14 : decode cX10_isNoDay 14 = .ok (.iconst 1, 1) := by decide +kernel
theorem dX10_isNoDay_15 : decode cX10_isNoDay 15 = .ok (.goto 4, 3) := by decide +kernel
theorem dX10_isNoDay_18 : decode cX10_isNoDay 18 = .ok (.iconst 0, 1) := by decide +kernel
theorem dX10_isNoDay_19 : decode cX10_isNoDay 19 = .ok (.ireturn, 1) := by decide +kernel
theorem dX10_pass_0 : decode cX10_pass 0 = .ok (.aload_n 0, 1) := by decide +kernel
theorem dX10_pass_1 : decode cX10_pass 1 = .ok (.iload_n 1, 1) := by decide +kernel
theorem dX10_pass_2 : decode cX10_pass 2 = .ok (.iconst 1, 1) := by decide +kernel
theorem dX10_pass_3 : decode cX10_pass 3 = .ok (.bipush 30, 2) := by decide +kernel
theorem dX10_pass_5 : decode cX10_pass 5 = .ok (.invokestatic 47, 3) := by decide +kernel
theorem dX10_pass_8 : decode cX10_pass 8 = .ok (.ifCond .ne 7, 3) := by decide +kernel
theorem dX10_pass_11 : decode cX10_pass 11 = .ok (.iconst 1, 1) := by decide +kernel
theorem dX10_pass_12 : decode cX10_pass 12 = .ok (.goto 4, 3) := by decide +kernel
theorem dX10_pass_15 : decode cX10_pass 15 = .ok (.iconst 0, 1) := by decide +kernel
theorem dX10_pass_16 : decode cX10_pass 16 = .ok (.iconst 1, 1) := by decide +kernel
theorem dX10_pass_17 : decode cX10_pass 17 = .ok (.invokevirtual 51, 3) := by decide +kernel
theorem dX10_pass_20 : decode cX10_pass 20 = .ok (.ifCond .ne 30, 3) := by decide +kernel
theorem dX10_pass_23 : decode cX10_pass 23 = .ok (.aload_n 0, 1) := by decide +kernel
theorem dX10_pass_24 : decode cX10_pass 24 = .ok (.aload_n 0, 1) := by decide +kernel
theorem dX10_pass_25 : decode cX10_pass 25 = .ok (.getfield 9, 3) := by decide +kernel
theorem dX10_pass_28 : decode cX10_pass 28 = .ok (.iconst 0, 1) := by decide +kernel
theorem dX10_pass_29 : decode cX10_pass 29 = .ok (.iaload, 1) := by decide +kernel
theorem dX10_pass_30 : decode cX10_pass 30 = .ok (.iload_n 1, 1) := by decide +kernel
theorem dX10_pass_31 : decode cX10_pass 31 = .ok (.iadd, 1) := by decide +kernel
theorem dX10_pass_32 : decode cX10_pass 32 = .ok (.sipush 199, 3) := by decide +kernel
theorem dX10_pass_35 : decode cX10_pass 35 = .ok (.if_icmp .le 7, 3) := by decide +kernel
theorem dX10_pass_38 : decode cX10_pass 38 = .ok (.iconst 1, 1) := by decide +kernel
theorem dX10_pass_39 : decode cX10_pass 39 = .ok (.goto 4, 3) := by decide +kernel
theorem dX10_pass_42 : decode cX10_pass 42 = .ok (.iconst 0, 1) := by decide +kernel
theorem dX10_pass_43 : decode cX10_pass 43 = .ok (.iconst 2, 1) := by decide +kernel
theorem dX10_pass_44 : decode cX10_pass 44 = .ok (.invokevirtual 51, 3) := by decide +kernel
theorem dX10_pass_47 : decode cX10_pass 47 = .ok (.ifCond .eq 5, 3) := by decide +kernel
theorem dX10_pass_50 : decode cX10_pass 50 = .ok (.iconst 0, 1) := by decide +kernel
theorem dX10_pass_51 : decode cX10_pass 51 = .ok (.ireturn, 1) := by decide +kernel
theorem dX10_pass_52 : decode cX10_pass 52 = .ok (.aload_n 0, 1) := by decide +kernel
theorem dX10_pass_53 : decode cX10_pass 53 = .ok (.invokevirtual 55, 3) := by decide +kernel
theorem dX10_pass_56 : decode cX10_pass 56 = .ok (.aload_n 0, 1) := by decide +kernel
theorem dX10_pass_57 : decode cX10_pass 57 = .ok (.getfield 9, 3) := by decide +kernel
theorem dX10_pass_60 : decode cX10_pass 60 = .ok (.iconst 0, 1) := by decide +kernel
theorem dX10_pass_61 : decode cX10_pass 61 = .ok (.dup2, 1) := by decide +kernel
theorem dX10_pass_62 : decode cX10_pass 62 = .ok (.iaload, 1) := by decide +kernel
theorem dX10_pass_63 : decode cX10_pass 63 = .ok (.iload_n 1, 1) := by decide +kernel
theorem dX10_pass_64 : decode cX10_pass 64 = .ok (.iadd, 1) := by decide +kernel
theorem dX10_pass_65 : decode cX10_pass 65 = .ok (.iastore, 1) := by decide +kernel
theorem dX10_pass_66 : decode cX10_pass 66 = .ok (.aload_n 0, 1) := by decide +kernel
theorem dX10_pass_67 : decode cX10_pass 67 = .ok (.getfield 9, 3) := by decide +kernel
theorem dX10_pass_70 : decode cX10_pass 70 = .ok (.iconst 0, 1) := by decide +kernel
theorem dX10_pass_71 : decode cX10_pass 71 = .ok (.iaload, 1) := by decide +kernel
theorem dX10_pass_72 : decode cX10_pass 72 = .ok (.ireturn, 1) := by decide +kernel
theorem dX10_today_0 : decode cX10_today 0 = .ok (.aload_n 0, 1) := by decide +kernel
theorem dX10_today_1 : decode cX10_today 1 = .ok (.iconst 0, 1) := by decide +kernel
theorem dX10_today_2 : decode cX10_today 2 = .ok (.putfield 31, 3) := by decide +kernel
theorem dX10_today_5 : decode cX10_today 5 = .ok (.aload_n 0, 1) := by decide +kernel
theorem dX10_today_6 : decode cX10_today 6 = .ok (.getfield 9, 3) := by decide +kernel
theorem dX10_today_9 : decode cX10_today 9 = .ok (.iconst 0, 1) := by decide +kernel
theorem dX10_today_10 : decode cX10_today 10 = .ok (.iaload, 1) := by decide +kernel
theorem dX10_today_11 : decode cX10_today 11 = .ok (.ireturn, 1) := by decide +kernel
theorem dX10_testOn_0 : decode cX10_testOn 0 = .ok (.iconst (-1), 1) := by decide +kernel
theorem dX10_testOn_1 : decode cX10_testOn 1 = .ok (.istore_n 2, 1) := by decide +kernel
theorem dX10_testOn_2 : decode cX10_testOn 2 = .ok (.iconst 0, 1) := by decide +kernel
theorem dX10_testOn_3 : decode cX10_testOn 3 = .ok (.istore_n 3, 1) := by decide +kernel
theorem dX10_testOn_4 : decode cX10_testOn 4 = .ok (.iload_n 3, 1) := by decide +kernel
theorem dX10_testOn_5 : decode cX10_testOn 5 = .ok (.aload_n 0, 1) := by decide +kernel
theorem dX10_testOn_6 : decode cX10_testOn 6 = .ok (.getfield 9, 3) := by decide +kernel
theorem dX10_testOn_9 : decode cX10_testOn 9 = .ok (.iconst 3, 1) := by decide +kernel
theorem dX10_testOn_10 : decode cX10_testOn 10 = .ok (.iaload, 1) := by decide +kernel
theorem dX10_testOn_11 : decode cX10_testOn 11 = .ok (.if_icmp .ge 30, 3) := by decide +kernel
theorem dX10_testOn_14 : decode cX10_testOn 14 = .ok (.aload_n 0, 1) := by decide +kernel
theorem dX10_testOn_15 : decode cX10_testOn 15 = .ok (.getfield 9, 3) := by decide +kernel
theorem dX10_testOn_18 : decode cX10_testOn 18 = .ok (.bipush 20, 2) := by decide +kernel
theorem dX10_testOn_20 : decode cX10_testOn 20 = .ok (.iconst 2, 1) := by decide +kernel
theorem dX10_testOn_21 : decode cX10_testOn 21 = .ok (.iload_n 3, 1) := by decide +kernel
theorem dX10_testOn_22 : decode cX10_testOn 22 = .ok (.imul, 1) := by decide +kernel
theorem dX10_testOn_23 : decode cX10_testOn 23 = .ok (.iadd, 1) := by decide +kernel
theorem dX10_testOn_24 : decode cX10_testOn 24 = .ok (.iaload, 1) := by decide +kernel
theorem dX10_testOn_25 : decode cX10_testOn 25 = .ok (.iload_n 1, 1) := by decide +kernel
theorem dX10_testOn_26 : decode cX10_testOn 26 = .ok (.if_icmp .ne 7, 3) := by decide +kernel
theorem dX10_testOn_29 : decode cX10_testOn 29 = .ok (.iload_n 3, 1) := by decide +kernel
theorem dX10_testOn_30 : decode cX10_testOn 30 = .ok (.goto 4, 3) := by decide +kernel
theorem dX10_testOn_33 : decode cX10_testOn 33 = .ok (.iload_n 2, 1) := by decide +kernel
theorem dX10_testOn_34 : decode cX10_testOn 34 = .ok (.istore_n 2, 1) := by decide +kernel
theorem dX10_testOn_35 : decode cX10_testOn 35 = .ok (.iinc 3 1, 3) := by decide +kernel
theorem dX10_testOn_38 : decode cX10_testOn 38 = .ok (.goto (-34), 3) := by decide +kernel
theorem dX10_testOn_41 : decode cX10_testOn 41 = .ok (.iload_n 2, 1) := by decide +kernel
theorem dX10_testOn_42 : decode cX10_testOn 42 = .ok (.ireturn, 1) := by decide +kernel
theorem dX10_addTest_0 : decode cX10_addTest 0 = .ok (.aload_n 0, 1) := by decide +kernel
theorem dX10_addTest_1 : decode cX10_addTest 1 = .ok (.aload_n 0, 1) := by decide +kernel
theorem dX10_addTest_2 : decode cX10_addTest 2 = .ok (.iload_n 1, 1) := by decide +kernel
theorem dX10_addTest_3 : decode cX10_addTest 3 = .ok (.invokevirtual 58, 3) := by decide +kernel
theorem dX10_addTest_6 : decode cX10_addTest 6 = .ok (.ifCond .ne 15, 3) := by decide +kernel
theorem dX10_addTest_9 : decode cX10_addTest 9 = .ok (.iload_n 2, 1) := by decide +kernel
theorem dX10_addTest_10 : decode cX10_addTest 10 = .ok (.bipush 50, 2) := by decide +kernel
theorem dX10_addTest_12 : decode cX10_addTest 12 = .ok (.sipush 400, 3) := by decide +kernel
theorem dX10_addTest_15 : decode cX10_addTest 15 = .ok (.invokestatic 47, 3) := by decide +kernel
theorem dX10_addTest_18 : decode cX10_addTest 18 = .ok (.ifCond .ne 7, 3) := by decide +kernel
theorem dX10_addTest_21 : decode cX10_addTest 21 = .ok (.iconst 1, 1) := by decide +kernel
theorem dX10_addTest_22 : decode cX10_addTest 22 = .ok (.goto 4, 3) := by decide +kernel
theorem dX10_addTest_25 : decode cX10_addTest 25 = .ok (.iconst 0, 1) := by decide +kernel
theorem dX10_addTest_26 : decode cX10_addTest 26 = .ok (.iconst 1, 1) := by decide +kernel
theorem dX10_addTest_27 : decode cX10_addTest 27 = .ok (.invokevirtual 51, 3) := by decide +kernel
theorem dX10_addTest_30 : decode cX10_addTest 30 = .ok (.ifCond .ne 35, 3) := by decide +kernel
theorem dX10_addTest_33 : decode cX10_addTest 33 = .ok (.aload_n 0, 1) := by decide +kernel
theorem dX10_addTest_34 : decode cX10_addTest 34 = .ok (.aload_n 0, 1) := by decide +kernel
theorem dX10_addTest_35 : decode cX10_addTest 35 = .ok (.getfield 9, 3) := by decide +kernel
theorem dX10_addTest_38 : decode cX10_addTest 38 = .ok (.iconst 3, 1) := by decide +kernel
theorem dX10_addTest_39 : decode cX10_addTest 39 = .ok (.iaload, 1) := by decide +kernel
theorem dX10_addTest_40 : decode cX10_addTest 40 = .ok (.bipush 10, 2) := by decide +kernel
theorem dX10_addTest_42 : decode cX10_addTest 42 = .ok (.if_icmp .eq 11, 3) := by decide +kernel
theorem dX10_addTest_45 : decode cX10_addTest 45 = .ok (.aload_n 0, 1) := by decide +kernel
theorem dX10_addTest_46 : decode cX10_addTest 46 = .ok (.iload_n 1, 1) := by decide +kernel
theorem dX10_addTest_47 : decode cX10_addTest 47 = .ok (.invokevirtual 62, 3) := by decide +kernel
theorem dX10_addTest_50 : decode cX10_addTest 50 = .ok (.ifCond .lt 7, 3) := by decide +kernel
theorem dX10_addTest_53 : decode cX10_addTest 53 = .ok (.iconst 1, 1) := by decide +kernel
theorem dX10_addTest_54 : decode cX10_addTest 54 = .ok (.goto 4, 3) := by decide +kernel
theorem dX10_addTest_57 : decode cX10_addTest 57 = .ok (.iconst 0, 1) := by decide +kernel
theorem dX10_addTest_58 : decode cX10_addTest 58 = .ok (.iconst 2, 1) := by decide +kernel
theorem dX10_addTest_59 : decode cX10_addTest 59 = .ok (.invokevirtual 51, 3) := by decide +kernel
theorem dX10_addTest_62 : decode cX10_addTest 62 = .ok (.ifCond .eq 5, 3) := by decide +kernel
theorem dX10_addTest_65 : decode cX10_addTest 65 = .ok (.iconst 0, 1) := by decide +kernel
theorem dX10_addTest_66 : decode cX10_addTest 66 = .ok (.ireturn, 1) := by decide +kernel
theorem dX10_addTest_67 : decode cX10_addTest 67 = .ok (.aload_n 0, 1) := by decide +kernel
theorem dX10_addTest_68 : decode cX10_addTest 68 = .ok (.invokevirtual 55, 3) := by decide +kernel
theorem dX10_addTest_71 : decode cX10_addTest 71 = .ok (.aload_n 0, 1) := by decide +kernel
theorem dX10_addTest_72 : decode cX10_addTest 72 = .ok (.getfield 9, 3) := by decide +kernel
theorem dX10_addTest_75 : decode cX10_addTest 75 = .ok (.bipush 20, 2) := by decide +kernel
theorem dX10_addTest_77 : decode cX10_addTest 77 = .ok (.iconst 2, 1) := by decide +kernel
theorem dX10_addTest_78 : decode cX10_addTest 78 = .ok (.aload_n 0, 1) := by decide +kernel
theorem dX10_addTest_79 : decode cX10_addTest 79 = .ok (.getfield 9, 3) := by decide +kernel
theorem dX10_addTest_82 : decode cX10_addTest 82 = .ok (.iconst 3, 1) := by decide +kernel
theorem dX10_addTest_83 : decode cX10_addTest 83 = .ok (.iaload, 1) := by decide +kernel
theorem dX10_addTest_84 : decode cX10_addTest 84 = .ok (.imul, 1) := by decide +kernel
theorem dX10_addTest_85 : decode cX10_addTest 85 = .ok (.iadd, 1) := by decide +kernel
theorem dX10_addTest_86 : decode cX10_addTest 86 = .ok (.iload_n 1, 1) := by decide +kernel
theorem dX10_addTest_87 : decode cX10_addTest 87 = .ok (.iastore, 1) := by decide +kernel
theorem dX10_addTest_88 : decode cX10_addTest 88 = .ok (.aload_n 0, 1) := by decide +kernel
theorem dX10_addTest_89 : decode cX10_addTest 89 = .ok (.getfield 9, 3) := by decide +kernel
theorem dX10_addTest_92 : decode cX10_addTest 92 = .ok (.bipush 20, 2) := by decide +kernel
theorem dX10_addTest_94 : decode cX10_addTest 94 = .ok (.iconst 2, 1) := by decide +kernel
theorem dX10_addTest_95 : decode cX10_addTest 95 = .ok (.aload_n 0, 1) := by decide +kernel
theorem dX10_addTest_96 : decode cX10_addTest 96 = .ok (.getfield 9, 3) := by decide +kernel
theorem dX10_addTest_99 : decode cX10_addTest 99 = .ok (.iconst 3, 1) := by decide +kernel
theorem dX10_addTest_100 : decode cX10_addTest 100 = .ok (.iaload, 1) := by decide +kernel
theorem dX10_addTest_101 : decode cX10_addTest 101 = .ok (.imul, 1) := by decide +kernel
theorem dX10_addTest_102 : decode cX10_addTest 102 = .ok (.iadd, 1) := by decide +kernel
theorem dX10_addTest_103 : decode cX10_addTest 103 = .ok (.iconst 1, 1) := by decide +kernel
theorem dX10_addTest_104 : decode cX10_addTest 104 = .ok (.iadd, 1) := by decide +kernel
theorem dX10_addTest_105 : decode cX10_addTest 105 = .ok (.iload_n 2, 1) := by decide +kernel
theorem dX10_addTest_106 : decode cX10_addTest 106 = .ok (.iastore, 1) := by decide +kernel
theorem dX10_addTest_107 : decode cX10_addTest 107 = .ok (.aload_n 0, 1) := by decide +kernel
theorem dX10_addTest_108 : decode cX10_addTest 108 = .ok (.getfield 9, 3) := by decide +kernel
theorem dX10_addTest_111 : decode cX10_addTest 111 = .ok (.iconst 3, 1) := by decide +kernel
theorem dX10_addTest_112 : decode cX10_addTest 112 = .ok (.dup2, 1) := by decide +kernel
theorem dX10_addTest_113 : decode cX10_addTest 113 = .ok (.iaload, 1) := by decide +kernel
theorem dX10_addTest_114 : decode cX10_addTest 114 = .ok (.iconst 1, 1) := by decide +kernel
theorem dX10_addTest_115 : decode cX10_addTest 115 = .ok (.iadd, 1) := by decide +kernel
theorem dX10_addTest_116 : decode cX10_addTest 116 = .ok (.iastore, 1) := by decide +kernel
theorem dX10_addTest_117 : decode cX10_addTest 117 = .ok (.iconst 0, 1) := by decide +kernel
theorem dX10_addTest_118 : decode cX10_addTest 118 = .ok (.istore_n 3, 1) := by decide +kernel
theorem dX10_addTest_119 : decode cX10_addTest 119 = .ok (.aload_n 0, 1) := by decide +kernel
theorem dX10_addTest_120 : decode cX10_addTest 120 = .ok (.getfield 9, 3) := by decide +kernel
theorem dX10_addTest_123 : decode cX10_addTest 123 = .ok (.astore 4, 2) := by decide +kernel
theorem dX10_addTest_125 : decode cX10_addTest 125 = .ok (.iconst 0, 1) := by decide +kernel
theorem dX10_addTest_126 : decode cX10_addTest 126 = .ok (.istore 5, 2) := by decide +kernel
theorem dX10_addTest_128 : decode cX10_addTest 128 = .ok (.iload 5, 2) := by decide +kernel
theorem dX10_addTest_130 : decode cX10_addTest 130 = .ok (.aload 4, 2) := by decide +kernel
theorem dX10_addTest_132 : decode cX10_addTest 132 = .ok (.iconst 2, 1) := by decide +kernel
theorem dX10_addTest_133 : decode cX10_addTest 133 = .ok (.iaload, 1) := by decide +kernel
theorem dX10_addTest_134 : decode cX10_addTest 134 = .ok (.if_icmp .ge 55, 3) := by decide +kernel
theorem dX10_addTest_137 : decode cX10_addTest 137 = .ok (.aload_n 0, 1) := by decide +kernel
theorem dX10_addTest_138 : decode cX10_addTest 138 = .ok (.iload 5, 2) := by decide +kernel
theorem dX10_addTest_140 : decode cX10_addTest 140 = .ok (.invokevirtual 66, 3) := by decide +kernel
theorem dX10_addTest_143 : decode cX10_addTest 143 = .ok (.istore 6, 2) := by decide +kernel
theorem dX10_addTest_145 : decode cX10_addTest 145 = .ok (.aload_n 0, 1) := by decide +kernel
theorem dX10_addTest_146 : decode cX10_addTest 146 = .ok (.aload_n 0, 1) := by decide +kernel
theorem dX10_addTest_147 : decode cX10_addTest 147 = .ok (.getfield 15, 3) := by decide +kernel
theorem dX10_addTest_150 : decode cX10_addTest 150 = .ok (.aload_n 0, 1) := by decide +kernel
theorem dX10_addTest_151 : decode cX10_addTest 151 = .ok (.getfield 35, 3) := by decide +kernel
theorem dX10_addTest_154 : decode cX10_addTest 154 = .ok (.aaload, 1) := by decide +kernel
theorem dX10_addTest_155 : decode cX10_addTest 155 = .ok (.putfield 9, 3) := by decide +kernel
theorem dX10_addTest_158 : decode cX10_addTest 158 = .ok (.iload_n 3, 1) := by decide +kernel
theorem dX10_addTest_159 : decode cX10_addTest 159 = .ok (.aload_n 0, 1) := by decide +kernel
theorem dX10_addTest_160 : decode cX10_addTest 160 = .ok (.iload 5, 2) := by decide +kernel
theorem dX10_addTest_162 : decode cX10_addTest 162 = .ok (.invokevirtual 66, 3) := by decide +kernel
theorem dX10_addTest_165 : decode cX10_addTest 165 = .ok (.iload 6, 2) := by decide +kernel
theorem dX10_addTest_167 : decode cX10_addTest 167 = .ok (.if_icmp .ne 7, 3) := by decide +kernel
theorem dX10_addTest_170 : decode cX10_addTest 170 = .ok (.iconst 0, 1) := by decide +kernel
theorem dX10_addTest_171 : decode cX10_addTest 171 = .ok (.goto 4, 3) := by decide +kernel
theorem dX10_addTest_174 : decode cX10_addTest 174 = .ok (.iconst 1, 1) := by decide +kernel
theorem dX10_addTest_175 : decode cX10_addTest 175 = .ok (.iadd, 1) := by decide +kernel
theorem dX10_addTest_176 : decode cX10_addTest 176 = .ok (.istore_n 3, 1) := by decide +kernel
theorem dX10_addTest_177 : decode cX10_addTest 177 = .ok (.aload_n 0, 1) := by decide +kernel
theorem dX10_addTest_178 : decode cX10_addTest 178 = .ok (.aload 4, 2) := by decide +kernel
theorem dX10_addTest_180 : decode cX10_addTest 180 = .ok (.putfield 9, 3) := by decide +kernel
theorem dX10_addTest_183 : decode cX10_addTest 183 = .ok (.iinc 5 1, 3) := by decide +kernel
theorem dX10_addTest_186 : decode cX10_addTest 186 = .ok (.goto (-58), 3) := by decide +kernel
theorem dX10_addTest_189 : decode cX10_addTest 189 = .ok (.iload_n 3, 1) := by decide +kernel
theorem dX10_addTest_190 : decode cX10_addTest 190 = .ok (.ireturn, 1) := by decide +kernel
theorem dX10_removeTest_0 : decode cX10_removeTest 0 = .ok (.aload_n 0, 1) := by decide +kernel
theorem dX10_removeTest_1 : decode cX10_removeTest 1 = .ok (.iload_n 1, 1) := by decide +kernel
theorem dX10_removeTest_2 : decode cX10_removeTest 2 = .ok (.invokevirtual 62, 3) := by decide +kernel
theorem dX10_removeTest_5 : decode cX10_removeTest 5 = .ok (.istore_n 2, 1) := by decide +kernel
theorem dX10_removeTest_6 : decode cX10_removeTest 6 = .ok (.aload_n 0, 1) := by decide +kernel
theorem dX10_removeTest_7 : decode cX10_removeTest 7 = .ok (.iload_n 2, 1) := by decide +kernel
theorem dX10_removeTest_8 : decode cX10_removeTest 8 = .ok (.ifCond .ge 7, 3) := by decide +kernel
theorem dX10_removeTest_11 : decode cX10_removeTest 11 = .ok (.iconst 1, 1) := by decide +kernel
theorem dX10_removeTest_12 : decode cX10_removeTest 12 = .ok (.goto 4, 3) := by decide +kernel
theorem dX10_removeTest_15 : decode cX10_removeTest 15 = .ok (.iconst 0, 1) := by decide +kernel
theorem dX10_removeTest_16 : decode cX10_removeTest 16 = .ok (.iconst 1, 1) := by decide +kernel
theorem dX10_removeTest_17 : decode cX10_removeTest 17 = .ok (.invokevirtual 51, 3) := by decide +kernel
theorem dX10_removeTest_20 : decode cX10_removeTest 20 = .ok (.ifCond .eq 5, 3) := by decide +kernel
theorem dX10_removeTest_23 : decode cX10_removeTest 23 = .ok (.iconst 0, 1) := by decide +kernel
theorem dX10_removeTest_24 : decode cX10_removeTest 24 = .ok (.ireturn, 1) := by decide +kernel
theorem dX10_removeTest_25 : decode cX10_removeTest 25 = .ok (.aload_n 0, 1) := by decide +kernel
theorem dX10_removeTest_26 : decode cX10_removeTest 26 = .ok (.invokevirtual 55, 3) := by decide +kernel
theorem dX10_removeTest_29 : decode cX10_removeTest 29 = .ok (.aload_n 0, 1) := by decide +kernel
theorem dX10_removeTest_30 : decode cX10_removeTest 30 = .ok (.getfield 9, 3) := by decide +kernel
theorem dX10_removeTest_33 : decode cX10_removeTest 33 = .ok (.bipush 20, 2) := by decide +kernel
theorem dX10_removeTest_35 : decode cX10_removeTest 35 = .ok (.iconst 2, 1) := by decide +kernel
theorem dX10_removeTest_36 : decode cX10_removeTest 36 = .ok (.iload_n 2, 1) := by decide +kernel
theorem dX10_removeTest_37 : decode cX10_removeTest 37 = .ok (.imul, 1) := by decide +kernel
theorem dX10_removeTest_38 : decode cX10_removeTest 38 = .ok (.iadd, 1) := by decide +kernel
theorem dX10_removeTest_39 : decode cX10_removeTest 39 = .ok (.iconst 1, 1) := by decide +kernel
theorem dX10_removeTest_40 : decode cX10_removeTest 40 = .ok (.iadd, 1) := by decide +kernel
theorem dX10_removeTest_41 : decode cX10_removeTest 41 = .ok (.iaload, 1) := by decide +kernel
theorem dX10_removeTest_42 : decode cX10_removeTest 42 = .ok (.istore_n 3, 1) := by decide +kernel
theorem dX10_removeTest_43 : decode cX10_removeTest 43 = .ok (.aload_n 0, 1) := by decide +kernel
theorem dX10_removeTest_44 : decode cX10_removeTest 44 = .ok (.getfield 9, 3) := by decide +kernel
theorem dX10_removeTest_47 : decode cX10_removeTest 47 = .ok (.iconst 3, 1) := by decide +kernel
theorem dX10_removeTest_48 : decode cX10_removeTest 48 = .ok (.dup2, 1) := by decide +kernel
theorem dX10_removeTest_49 : decode cX10_removeTest 49 = .ok (.iaload, 1) := by decide +kernel
theorem dX10_removeTest_50 : decode cX10_removeTest 50 = .ok (.iconst 1, 1) := by decide +kernel
theorem dX10_removeTest_51 : decode cX10_removeTest 51 = .ok (.isub, 1) := by decide +kernel
theorem dX10_removeTest_52 : decode cX10_removeTest 52 = .ok (.iastore, 1) := by decide +kernel
theorem dX10_removeTest_53 : decode cX10_removeTest 53 = .ok (.aload_n 0, 1) := by decide +kernel
theorem dX10_removeTest_54 : decode cX10_removeTest 54 = .ok (.getfield 9, 3) := by decide +kernel
theorem dX10_removeTest_57 : decode cX10_removeTest 57 = .ok (.bipush 20, 2) := by decide +kernel
theorem dX10_removeTest_59 : decode cX10_removeTest 59 = .ok (.iconst 2, 1) := by decide +kernel
theorem dX10_removeTest_60 : decode cX10_removeTest 60 = .ok (.iload_n 2, 1) := by decide +kernel
theorem dX10_removeTest_61 : decode cX10_removeTest 61 = .ok (.imul, 1) := by decide +kernel
theorem dX10_removeTest_62 : decode cX10_removeTest 62 = .ok (.iadd, 1) := by decide +kernel
theorem dX10_removeTest_63 : decode cX10_removeTest 63 = .ok (.aload_n 0, 1) := by decide +kernel
theorem dX10_removeTest_64 : decode cX10_removeTest 64 = .ok (.getfield 9, 3) := by decide +kernel
theorem dX10_removeTest_67 : decode cX10_removeTest 67 = .ok (.bipush 20, 2) := by decide +kernel
theorem dX10_removeTest_69 : decode cX10_removeTest 69 = .ok (.iconst 2, 1) := by decide +kernel
theorem dX10_removeTest_70 : decode cX10_removeTest 70 = .ok (.aload_n 0, 1) := by decide +kernel
theorem dX10_removeTest_71 : decode cX10_removeTest 71 = .ok (.getfield 9, 3) := by decide +kernel
theorem dX10_removeTest_74 : decode cX10_removeTest 74 = .ok (.iconst 3, 1) := by decide +kernel
theorem dX10_removeTest_75 : decode cX10_removeTest 75 = .ok (.iaload, 1) := by decide +kernel
theorem dX10_removeTest_76 : decode cX10_removeTest 76 = .ok (.imul, 1) := by decide +kernel
theorem dX10_removeTest_77 : decode cX10_removeTest 77 = .ok (.iadd, 1) := by decide +kernel
theorem dX10_removeTest_78 : decode cX10_removeTest 78 = .ok (.iaload, 1) := by decide +kernel
theorem dX10_removeTest_79 : decode cX10_removeTest 79 = .ok (.iastore, 1) := by decide +kernel
theorem dX10_removeTest_80 : decode cX10_removeTest 80 = .ok (.aload_n 0, 1) := by decide +kernel
theorem dX10_removeTest_81 : decode cX10_removeTest 81 = .ok (.getfield 9, 3) := by decide +kernel
theorem dX10_removeTest_84 : decode cX10_removeTest 84 = .ok (.bipush 20, 2) := by decide +kernel
theorem dX10_removeTest_86 : decode cX10_removeTest 86 = .ok (.iconst 2, 1) := by decide +kernel
theorem dX10_removeTest_87 : decode cX10_removeTest 87 = .ok (.iload_n 2, 1) := by decide +kernel
theorem dX10_removeTest_88 : decode cX10_removeTest 88 = .ok (.imul, 1) := by decide +kernel
theorem dX10_removeTest_89 : decode cX10_removeTest 89 = .ok (.iadd, 1) := by decide +kernel
theorem dX10_removeTest_90 : decode cX10_removeTest 90 = .ok (.iconst 1, 1) := by decide +kernel
theorem dX10_removeTest_91 : decode cX10_removeTest 91 = .ok (.iadd, 1) := by decide +kernel
theorem dX10_removeTest_92 : decode cX10_removeTest 92 = .ok (.aload_n 0, 1) := by decide +kernel
theorem dX10_removeTest_93 : decode cX10_removeTest 93 = .ok (.getfield 9, 3) := by decide +kernel
theorem dX10_removeTest_96 : decode cX10_removeTest 96 = .ok (.bipush 20, 2) := by decide +kernel
theorem dX10_removeTest_98 : decode cX10_removeTest 98 = .ok (.iconst 2, 1) := by decide +kernel
theorem dX10_removeTest_99 : decode cX10_removeTest 99 = .ok (.aload_n 0, 1) := by decide +kernel
theorem dX10_removeTest_100 : decode cX10_removeTest 100 = .ok (.getfield 9, 3) := by decide +kernel
theorem dX10_removeTest_103 : decode cX10_removeTest 103 = .ok (.iconst 3, 1) := by decide +kernel
theorem dX10_removeTest_104 : decode cX10_removeTest 104 = .ok (.iaload, 1) := by decide +kernel
theorem dX10_removeTest_105 : decode cX10_removeTest 105 = .ok (.imul, 1) := by decide +kernel
theorem dX10_removeTest_106 : decode cX10_removeTest 106 = .ok (.iadd, 1) := by decide +kernel
theorem dX10_removeTest_107 : decode cX10_removeTest 107 = .ok (.iconst 1, 1) := by decide +kernel
theorem dX10_removeTest_108 : decode cX10_removeTest 108 = .ok (.iadd, 1) := by decide +kernel
theorem dX10_removeTest_109 : decode cX10_removeTest 109 = .ok (.iaload, 1) := by decide +kernel
theorem dX10_removeTest_110 : decode cX10_removeTest 110 = .ok (.iastore, 1) := by decide +kernel
theorem dX10_removeTest_111 : decode cX10_removeTest 111 = .ok (.iload_n 3, 1) := by decide +kernel
theorem dX10_removeTest_112 : decode cX10_removeTest 112 = .ok (.ireturn, 1) := by decide +kernel
theorem dX10_testCount_0 : decode cX10_testCount 0 = .ok (.aload_n 0, 1) := by decide +kernel
theorem dX10_testCount_1 : decode cX10_testCount 1 = .ok (.iconst 0, 1) := by decide +kernel
theorem dX10_testCount_2 : decode cX10_testCount 2 = .ok (.putfield 31, 3) := by decide +kernel
theorem dX10_testCount_5 : decode cX10_testCount 5 = .ok (.aload_n 0, 1) := by decide +kernel
theorem dX10_testCount_6 : decode cX10_testCount 6 = .ok (.getfield 9, 3) := by decide +kernel
theorem dX10_testCount_9 : decode cX10_testCount 9 = .ok (.iconst 3, 1) := by decide +kernel
theorem dX10_testCount_10 : decode cX10_testCount 10 = .ok (.iaload, 1) := by decide +kernel
theorem dX10_testCount_11 : decode cX10_testCount 11 = .ok (.ireturn, 1) := by decide +kernel
theorem dX10_threshold_0 : decode cX10_threshold 0 = .ok (.iconst (-1), 1) := by decide +kernel
theorem dX10_threshold_1 : decode cX10_threshold 1 = .ok (.istore_n 2, 1) := by decide +kernel
theorem dX10_threshold_2 : decode cX10_threshold 2 = .ok (.sipush 200, 3) := by decide +kernel
theorem dX10_threshold_5 : decode cX10_threshold 5 = .ok (.istore_n 3, 1) := by decide +kernel
theorem dX10_threshold_6 : decode cX10_threshold 6 = .ok (.iconst 0, 1) := by decide +kernel
theorem dX10_threshold_7 : decode cX10_threshold 7 = .ok (.istore 4, 2) := by decide +kernel
theorem dX10_threshold_9 : decode cX10_threshold 9 = .ok (.iload 4, 2) := by decide +kernel
theorem dX10_threshold_11 : decode cX10_threshold 11 = .ok (.aload_n 0, 1) := by decide +kernel
theorem dX10_threshold_12 : decode cX10_threshold 12 = .ok (.getfield 9, 3) := by decide +kernel
theorem dX10_threshold_15 : decode cX10_threshold 15 = .ok (.iconst 3, 1) := by decide +kernel
theorem dX10_threshold_16 : decode cX10_threshold 16 = .ok (.iaload, 1) := by decide +kernel
theorem dX10_threshold_17 : decode cX10_threshold 17 = .ok (.if_icmp .ge 69, 3) := by decide +kernel
theorem dX10_threshold_20 : decode cX10_threshold 20 = .ok (.aload_n 0, 1) := by decide +kernel
theorem dX10_threshold_21 : decode cX10_threshold 21 = .ok (.getfield 9, 3) := by decide +kernel
theorem dX10_threshold_24 : decode cX10_threshold 24 = .ok (.bipush 20, 2) := by decide +kernel
theorem dX10_threshold_26 : decode cX10_threshold 26 = .ok (.iconst 2, 1) := by decide +kernel
theorem dX10_threshold_27 : decode cX10_threshold 27 = .ok (.iload 4, 2) := by decide +kernel
theorem dX10_threshold_29 : decode cX10_threshold 29 = .ok (.imul, 1) := by decide +kernel
theorem dX10_threshold_30 : decode cX10_threshold 30 = .ok (.iadd, 1) := by decide +kernel
theorem dX10_threshold_31 : decode cX10_threshold 31 = .ok (.iaload, 1) := by decide +kernel
theorem dX10_threshold_32 : decode cX10_threshold 32 = .ok (.iload_n 1, 1) := by decide +kernel
theorem dX10_threshold_33 : decode cX10_threshold 33 = .ok (.if_icmp .gt 47, 3) := by decide +kernel
theorem dX10_threshold_36 : decode cX10_threshold 36 = .ok (.aload_n 0, 1) := by decide +kernel
theorem dX10_threshold_37 : decode cX10_threshold 37 = .ok (.getfield 9, 3) := by decide +kernel
theorem dX10_threshold_40 : decode cX10_threshold 40 = .ok (.bipush 20, 2) := by decide +kernel
theorem dX10_threshold_42 : decode cX10_threshold 42 = .ok (.iconst 2, 1) := by decide +kernel
theorem dX10_threshold_43 : decode cX10_threshold 43 = .ok (.iload 4, 2) := by decide +kernel
theorem dX10_threshold_45 : decode cX10_threshold 45 = .ok (.imul, 1) := by decide +kernel
theorem dX10_threshold_46 : decode cX10_threshold 46 = .ok (.iadd, 1) := by decide +kernel
theorem dX10_threshold_47 : decode cX10_threshold 47 = .ok (.iaload, 1) := by decide +kernel
theorem dX10_threshold_48 : decode cX10_threshold 48 = .ok (.iload_n 2, 1) := by decide +kernel
theorem dX10_threshold_49 : decode cX10_threshold 49 = .ok (.if_icmp .le 31, 3) := by decide +kernel
theorem dX10_threshold_52 : decode cX10_threshold 52 = .ok (.aload_n 0, 1) := by decide +kernel
theorem dX10_threshold_53 : decode cX10_threshold 53 = .ok (.getfield 9, 3) := by decide +kernel
theorem dX10_threshold_56 : decode cX10_threshold 56 = .ok (.bipush 20, 2) := by decide +kernel
theorem dX10_threshold_58 : decode cX10_threshold 58 = .ok (.iconst 2, 1) := by decide +kernel
theorem dX10_threshold_59 : decode cX10_threshold 59 = .ok (.iload 4, 2) := by decide +kernel
theorem dX10_threshold_61 : decode cX10_threshold 61 = .ok (.imul, 1) := by decide +kernel
theorem dX10_threshold_62 : decode cX10_threshold 62 = .ok (.iadd, 1) := by decide +kernel
theorem dX10_threshold_63 : decode cX10_threshold 63 = .ok (.iaload, 1) := by decide +kernel
theorem dX10_threshold_64 : decode cX10_threshold 64 = .ok (.istore_n 2, 1) := by decide +kernel
theorem dX10_threshold_65 : decode cX10_threshold 65 = .ok (.aload_n 0, 1) := by decide +kernel
theorem dX10_threshold_66 : decode cX10_threshold 66 = .ok (.getfield 9, 3) := by decide +kernel
theorem dX10_threshold_69 : decode cX10_threshold 69 = .ok (.bipush 20, 2) := by decide +kernel
theorem dX10_threshold_71 : decode cX10_threshold 71 = .ok (.iconst 2, 1) := by decide +kernel
theorem dX10_threshold_72 : decode cX10_threshold 72 = .ok (.iload 4, 2) := by decide +kernel
theorem dX10_threshold_74 : decode cX10_threshold 74 = .ok (.imul, 1) := by decide +kernel
theorem dX10_threshold_75 : decode cX10_threshold 75 = .ok (.iadd, 1) := by decide +kernel
theorem dX10_threshold_76 : decode cX10_threshold 76 = .ok (.iconst 1, 1) := by decide +kernel
theorem dX10_threshold_77 : decode cX10_threshold 77 = .ok (.iadd, 1) := by decide +kernel
theorem dX10_threshold_78 : decode cX10_threshold 78 = .ok (.iaload, 1) := by decide +kernel
theorem dX10_threshold_79 : decode cX10_threshold 79 = .ok (.istore_n 3, 1) := by decide +kernel
theorem dX10_threshold_80 : decode cX10_threshold 80 = .ok (.iinc 4 1, 3) := by decide +kernel
theorem dX10_threshold_83 : decode cX10_threshold 83 = .ok (.goto (-74), 3) := by decide +kernel
theorem dX10_threshold_86 : decode cX10_threshold 86 = .ok (.iload_n 3, 1) := by decide +kernel
theorem dX10_threshold_87 : decode cX10_threshold 87 = .ok (.ireturn, 1) := by decide +kernel
theorem dX10_thresholdOn_0 : decode cX10_thresholdOn 0 = .ok (.aload_n 0, 1) := by decide +kernel
theorem dX10_thresholdOn_1 : decode cX10_thresholdOn 1 = .ok (.iload_n 1, 1) := by decide +kernel
theorem dX10_thresholdOn_2 : decode cX10_thresholdOn 2 = .ok (.iconst 0, 1) := by decide +kernel
theorem dX10_thresholdOn_3 : decode cX10_thresholdOn 3 = .ok (.sipush 199, 3) := by decide +kernel
theorem dX10_thresholdOn_6 : decode cX10_thresholdOn 6 = .ok (.invokestatic 47, 3) := by decide +kernel
theorem dX10_thresholdOn_9 : decode cX10_thresholdOn 9 = .ok (.ifCond .ne 7, 3) := by decide +kernel
theorem dX10_thresholdOn_12 : decode cX10_thresholdOn 12 = .ok (.iconst 1, 1) := by decide +kernel
theorem dX10_thresholdOn_13 : decode cX10_thresholdOn 13 = .ok (.goto 4, 3) := by decide +kernel
theorem dX10_thresholdOn_16 : decode cX10_thresholdOn 16 = .ok (.iconst 0, 1) := by decide +kernel
theorem dX10_thresholdOn_17 : decode cX10_thresholdOn 17 = .ok (.iconst 1, 1) := by decide +kernel
theorem dX10_thresholdOn_18 : decode cX10_thresholdOn 18 = .ok (.invokevirtual 51, 3) := by decide +kernel
theorem dX10_thresholdOn_21 : decode cX10_thresholdOn 21 = .ok (.ifCond .eq 7, 3) := by decide +kernel
theorem dX10_thresholdOn_24 : decode cX10_thresholdOn 24 = .ok (.iconst 0, 1) := by decide +kernel
theorem dX10_thresholdOn_25 : decode cX10_thresholdOn 25 = .ok (.goto 8, 3) := by decide +kernel
theorem dX10_thresholdOn_28 : decode cX10_thresholdOn 28 = .ok (.aload_n 0, 1) := by decide +kernel
theorem dX10_thresholdOn_29 : decode cX10_thresholdOn 29 = .ok (.iload_n 1, 1) := by decide +kernel
theorem dX10_thresholdOn_30 : decode cX10_thresholdOn 30 = .ok (.invokevirtual 69, 3) := by decide +kernel
theorem dX10_thresholdOn_33 : decode cX10_thresholdOn 33 = .ok (.ireturn, 1) := by decide +kernel
theorem dX10_setBound_0 : decode cX10_setBound 0 = .ok (.aload_n 0, 1) := by decide +kernel
theorem dX10_setBound_1 : decode cX10_setBound 1 = .ok (.iload_n 1, 1) := by decide +kernel
theorem dX10_setBound_2 : decode cX10_setBound 2 = .ok (.iconst 2, 1) := by decide +kernel
theorem dX10_setBound_3 : decode cX10_setBound 3 = .ok (.iconst 5, 1) := by decide +kernel
theorem dX10_setBound_4 : decode cX10_setBound 4 = .ok (.invokestatic 47, 3) := by decide +kernel
theorem dX10_setBound_7 : decode cX10_setBound 7 = .ok (.ifCond .eq 14, 3) := by decide +kernel
theorem dX10_setBound_10 : decode cX10_setBound 10 = .ok (.iload_n 2, 1) := by decide +kernel
theorem dX10_setBound_11 : decode cX10_setBound 11 = .ok (.iconst 1, 1) := by decide +kernel
theorem dX10_setBound_12 : decode cX10_setBound 12 = .ok (.sipush 300, 3) := by decide +kernel
theorem dX10_setBound_15 : decode cX10_setBound 15 = .ok (.invokestatic 47, 3) := by decide +kernel
theorem dX10_setBound_18 : decode cX10_setBound 18 = .ok (.ifCond .ne 7, 3) := by decide +kernel
theorem dX10_setBound_21 : decode cX10_setBound 21 = .ok (.iconst 1, 1) := by decide +kernel
theorem dX10_setBound_22 : decode cX10_setBound 22 = .ok (.goto 4, 3) := by decide +kernel
theorem dX10_setBound_25 : decode cX10_setBound 25 = .ok (.iconst 0, 1) := by decide +kernel
theorem dX10_setBound_26 : decode cX10_setBound 26 = .ok (.iconst 1, 1) := by decide +kernel
theorem dX10_setBound_27 : decode cX10_setBound 27 = .ok (.invokevirtual 51, 3) := by decide +kernel
theorem dX10_setBound_30 : decode cX10_setBound 30 = .ok (.ifCond .ne 56, 3) := by decide +kernel
theorem dX10_setBound_33 : decode cX10_setBound 33 = .ok (.aload_n 0, 1) := by decide +kernel
theorem dX10_setBound_34 : decode cX10_setBound 34 = .ok (.iload_n 1, 1) := by decide +kernel
theorem dX10_setBound_35 : decode cX10_setBound 35 = .ok (.iconst 2, 1) := by decide +kernel
theorem dX10_setBound_36 : decode cX10_setBound 36 = .ok (.if_icmp .le 18, 3) := by decide +kernel
theorem dX10_setBound_39 : decode cX10_setBound 39 = .ok (.aload_n 0, 1) := by decide +kernel
theorem dX10_setBound_40 : decode cX10_setBound 40 = .ok (.getfield 9, 3) := by decide +kernel
theorem dX10_setBound_43 : decode cX10_setBound 43 = .ok (.bipush 8, 2) := by decide +kernel
theorem dX10_setBound_45 : decode cX10_setBound 45 = .ok (.iload_n 1, 1) := by decide +kernel
theorem dX10_setBound_46 : decode cX10_setBound 46 = .ok (.iadd, 1) := by decide +kernel
theorem dX10_setBound_47 : decode cX10_setBound 47 = .ok (.iconst 1, 1) := by decide +kernel
theorem dX10_setBound_48 : decode cX10_setBound 48 = .ok (.isub, 1) := by decide +kernel
theorem dX10_setBound_49 : decode cX10_setBound 49 = .ok (.iaload, 1) := by decide +kernel
theorem dX10_setBound_50 : decode cX10_setBound 50 = .ok (.iload_n 2, 1) := by decide +kernel
theorem dX10_setBound_51 : decode cX10_setBound 51 = .ok (.if_icmp .ge 23, 3) := by decide +kernel
theorem dX10_setBound_54 : decode cX10_setBound 54 = .ok (.iload_n 1, 1) := by decide +kernel
theorem dX10_setBound_55 : decode cX10_setBound 55 = .ok (.iconst 5, 1) := by decide +kernel
theorem dX10_setBound_56 : decode cX10_setBound 56 = .ok (.if_icmp .ge 22, 3) := by decide +kernel
theorem dX10_setBound_59 : decode cX10_setBound 59 = .ok (.aload_n 0, 1) := by decide +kernel
theorem dX10_setBound_60 : decode cX10_setBound 60 = .ok (.getfield 9, 3) := by decide +kernel
theorem dX10_setBound_63 : decode cX10_setBound 63 = .ok (.bipush 8, 2) := by decide +kernel
theorem dX10_setBound_65 : decode cX10_setBound 65 = .ok (.iload_n 1, 1) := by decide +kernel
theorem dX10_setBound_66 : decode cX10_setBound 66 = .ok (.iadd, 1) := by decide +kernel
theorem dX10_setBound_67 : decode cX10_setBound 67 = .ok (.iconst 1, 1) := by decide +kernel
theorem dX10_setBound_68 : decode cX10_setBound 68 = .ok (.iadd, 1) := by decide +kernel
theorem dX10_setBound_69 : decode cX10_setBound 69 = .ok (.iaload, 1) := by decide +kernel
theorem dX10_setBound_70 : decode cX10_setBound 70 = .ok (.iload_n 2, 1) := by decide +kernel
theorem dX10_setBound_71 : decode cX10_setBound 71 = .ok (.if_icmp .gt 7, 3) := by decide +kernel
theorem dX10_setBound_74 : decode cX10_setBound 74 = .ok (.iconst 1, 1) := by decide +kernel
theorem dX10_setBound_75 : decode cX10_setBound 75 = .ok (.goto 4, 3) := by decide +kernel
theorem dX10_setBound_78 : decode cX10_setBound 78 = .ok (.iconst 0, 1) := by decide +kernel
theorem dX10_setBound_79 : decode cX10_setBound 79 = .ok (.iconst 2, 1) := by decide +kernel
theorem dX10_setBound_80 : decode cX10_setBound 80 = .ok (.invokevirtual 51, 3) := by decide +kernel
theorem dX10_setBound_83 : decode cX10_setBound 83 = .ok (.ifCond .eq 5, 3) := by decide +kernel
theorem dX10_setBound_86 : decode cX10_setBound 86 = .ok (.iconst 0, 1) := by decide +kernel
theorem dX10_setBound_87 : decode cX10_setBound 87 = .ok (.ireturn, 1) := by decide +kernel
theorem dX10_setBound_88 : decode cX10_setBound 88 = .ok (.aload_n 0, 1) := by decide +kernel
theorem dX10_setBound_89 : decode cX10_setBound 89 = .ok (.invokevirtual 55, 3) := by decide +kernel
theorem dX10_setBound_92 : decode cX10_setBound 92 = .ok (.aload_n 0, 1) := by decide +kernel
theorem dX10_setBound_93 : decode cX10_setBound 93 = .ok (.getfield 9, 3) := by decide +kernel
theorem dX10_setBound_96 : decode cX10_setBound 96 = .ok (.bipush 8, 2) := by decide +kernel
theorem dX10_setBound_98 : decode cX10_setBound 98 = .ok (.iload_n 1, 1) := by decide +kernel
theorem dX10_setBound_99 : decode cX10_setBound 99 = .ok (.iadd, 1) := by decide +kernel
theorem dX10_setBound_100 : decode cX10_setBound 100 = .ok (.iaload, 1) := by decide +kernel
theorem dX10_setBound_101 : decode cX10_setBound 101 = .ok (.istore_n 3, 1) := by decide +kernel
theorem dX10_setBound_102 : decode cX10_setBound 102 = .ok (.aload_n 0, 1) := by decide +kernel
theorem dX10_setBound_103 : decode cX10_setBound 103 = .ok (.getfield 9, 3) := by decide +kernel
theorem dX10_setBound_106 : decode cX10_setBound 106 = .ok (.bipush 8, 2) := by decide +kernel
theorem dX10_setBound_108 : decode cX10_setBound 108 = .ok (.iload_n 1, 1) := by decide +kernel
theorem dX10_setBound_109 : decode cX10_setBound 109 = .ok (.iadd, 1) := by decide +kernel
theorem dX10_setBound_110 : decode cX10_setBound 110 = .ok (.iload_n 2, 1) := by decide +kernel
theorem dX10_setBound_111 : decode cX10_setBound 111 = .ok (.iastore, 1) := by decide +kernel
theorem dX10_setBound_112 : decode cX10_setBound 112 = .ok (.iload_n 3, 1) := by decide +kernel
theorem dX10_setBound_113 : decode cX10_setBound 113 = .ok (.ireturn, 1) := by decide +kernel
theorem dX10_boundOf_0 : decode cX10_boundOf 0 = .ok (.aload_n 0, 1) := by decide +kernel
theorem dX10_boundOf_1 : decode cX10_boundOf 1 = .ok (.iload_n 1, 1) := by decide +kernel
theorem dX10_boundOf_2 : decode cX10_boundOf 2 = .ok (.iconst 2, 1) := by decide +kernel
theorem dX10_boundOf_3 : decode cX10_boundOf 3 = .ok (.iconst 5, 1) := by decide +kernel
theorem dX10_boundOf_4 : decode cX10_boundOf 4 = .ok (.invokestatic 47, 3) := by decide +kernel
theorem dX10_boundOf_7 : decode cX10_boundOf 7 = .ok (.ifCond .ne 7, 3) := by decide +kernel
theorem dX10_boundOf_10 : decode cX10_boundOf 10 = .ok (.iconst 1, 1) := by decide +kernel
theorem dX10_boundOf_11 : decode cX10_boundOf 11 = .ok (.goto 4, 3) := by decide +kernel
theorem dX10_boundOf_14 : decode cX10_boundOf 14 = .ok (.iconst 0, 1) := by decide +kernel
theorem dX10_boundOf_15 : decode cX10_boundOf 15 = .ok (.iconst 1, 1) := by decide +kernel
theorem dX10_boundOf_16 : decode cX10_boundOf 16 = .ok (.invokevirtual 51, 3) := by decide +kernel
theorem dX10_boundOf_19 : decode cX10_boundOf 19 = .ok (.ifCond .eq 7, 3) := by decide +kernel
theorem dX10_boundOf_22 : decode cX10_boundOf 22 = .ok (.iconst 0, 1) := by decide +kernel
theorem dX10_boundOf_23 : decode cX10_boundOf 23 = .ok (.goto 12, 3) := by decide +kernel
theorem dX10_boundOf_26 : decode cX10_boundOf 26 = .ok (.aload_n 0, 1) := by decide +kernel
theorem dX10_boundOf_27 : decode cX10_boundOf 27 = .ok (.getfield 9, 3) := by decide +kernel
theorem dX10_boundOf_30 : decode cX10_boundOf 30 = .ok (.bipush 8, 2) := by decide +kernel
theorem dX10_boundOf_32 : decode cX10_boundOf 32 = .ok (.iload_n 1, 1) := by decide +kernel
theorem dX10_boundOf_33 : decode cX10_boundOf 33 = .ok (.iadd, 1) := by decide +kernel
theorem dX10_boundOf_34 : decode cX10_boundOf 34 = .ok (.iaload, 1) := by decide +kernel
theorem dX10_boundOf_35 : decode cX10_boundOf 35 = .ok (.ireturn, 1) := by decide +kernel
theorem dX10_setWeight_0 : decode cX10_setWeight 0 = .ok (.aload_n 0, 1) := by decide +kernel
theorem dX10_setWeight_1 : decode cX10_setWeight 1 = .ok (.iload_n 1, 1) := by decide +kernel
theorem dX10_setWeight_2 : decode cX10_setWeight 2 = .ok (.iconst 1, 1) := by decide +kernel
theorem dX10_setWeight_3 : decode cX10_setWeight 3 = .ok (.iconst 5, 1) := by decide +kernel
theorem dX10_setWeight_4 : decode cX10_setWeight 4 = .ok (.invokestatic 47, 3) := by decide +kernel
theorem dX10_setWeight_7 : decode cX10_setWeight 7 = .ok (.ifCond .eq 13, 3) := by decide +kernel
theorem dX10_setWeight_10 : decode cX10_setWeight 10 = .ok (.iload_n 2, 1) := by decide +kernel
theorem dX10_setWeight_11 : decode cX10_setWeight 11 = .ok (.iconst 0, 1) := by decide +kernel
theorem dX10_setWeight_12 : decode cX10_setWeight 12 = .ok (.bipush 100, 2) := by decide +kernel
theorem dX10_setWeight_14 : decode cX10_setWeight 14 = .ok (.invokestatic 47, 3) := by decide +kernel
theorem dX10_setWeight_17 : decode cX10_setWeight 17 = .ok (.ifCond .ne 7, 3) := by decide +kernel
theorem dX10_setWeight_20 : decode cX10_setWeight 20 = .ok (.iconst 1, 1) := by decide +kernel
theorem dX10_setWeight_21 : decode cX10_setWeight 21 = .ok (.goto 4, 3) := by decide +kernel
theorem dX10_setWeight_24 : decode cX10_setWeight 24 = .ok (.iconst 0, 1) := by decide +kernel
theorem dX10_setWeight_25 : decode cX10_setWeight 25 = .ok (.iconst 1, 1) := by decide +kernel
theorem dX10_setWeight_26 : decode cX10_setWeight 26 = .ok (.invokevirtual 51, 3) := by decide +kernel
theorem dX10_setWeight_29 : decode cX10_setWeight 29 = .ok (.ifCond .eq 5, 3) := by decide +kernel
theorem dX10_setWeight_32 : decode cX10_setWeight 32 = .ok (.iconst 0, 1) := by decide +kernel
theorem dX10_setWeight_33 : decode cX10_setWeight 33 = .ok (.ireturn, 1) := by decide +kernel
theorem dX10_setWeight_34 : decode cX10_setWeight 34 = .ok (.aload_n 0, 1) := by decide +kernel
theorem dX10_setWeight_35 : decode cX10_setWeight 35 = .ok (.invokevirtual 55, 3) := by decide +kernel
theorem dX10_setWeight_38 : decode cX10_setWeight 38 = .ok (.aload_n 0, 1) := by decide +kernel
theorem dX10_setWeight_39 : decode cX10_setWeight 39 = .ok (.getfield 9, 3) := by decide +kernel
theorem dX10_setWeight_42 : decode cX10_setWeight 42 = .ok (.bipush 14, 2) := by decide +kernel
theorem dX10_setWeight_44 : decode cX10_setWeight 44 = .ok (.iload_n 1, 1) := by decide +kernel
theorem dX10_setWeight_45 : decode cX10_setWeight 45 = .ok (.iadd, 1) := by decide +kernel
theorem dX10_setWeight_46 : decode cX10_setWeight 46 = .ok (.iaload, 1) := by decide +kernel
theorem dX10_setWeight_47 : decode cX10_setWeight 47 = .ok (.istore_n 3, 1) := by decide +kernel
theorem dX10_setWeight_48 : decode cX10_setWeight 48 = .ok (.aload_n 0, 1) := by decide +kernel
theorem dX10_setWeight_49 : decode cX10_setWeight 49 = .ok (.getfield 9, 3) := by decide +kernel
theorem dX10_setWeight_52 : decode cX10_setWeight 52 = .ok (.bipush 14, 2) := by decide +kernel
theorem dX10_setWeight_54 : decode cX10_setWeight 54 = .ok (.iload_n 1, 1) := by decide +kernel
theorem dX10_setWeight_55 : decode cX10_setWeight 55 = .ok (.iadd, 1) := by decide +kernel
theorem dX10_setWeight_56 : decode cX10_setWeight 56 = .ok (.iload_n 2, 1) := by decide +kernel
theorem dX10_setWeight_57 : decode cX10_setWeight 57 = .ok (.iastore, 1) := by decide +kernel
theorem dX10_setWeight_58 : decode cX10_setWeight 58 = .ok (.iload_n 3, 1) := by decide +kernel
theorem dX10_setWeight_59 : decode cX10_setWeight 59 = .ok (.ireturn, 1) := by decide +kernel
theorem dX10_weightOf_0 : decode cX10_weightOf 0 = .ok (.aload_n 0, 1) := by decide +kernel
theorem dX10_weightOf_1 : decode cX10_weightOf 1 = .ok (.iload_n 1, 1) := by decide +kernel
theorem dX10_weightOf_2 : decode cX10_weightOf 2 = .ok (.iconst 1, 1) := by decide +kernel
theorem dX10_weightOf_3 : decode cX10_weightOf 3 = .ok (.iconst 5, 1) := by decide +kernel
theorem dX10_weightOf_4 : decode cX10_weightOf 4 = .ok (.invokestatic 47, 3) := by decide +kernel
theorem dX10_weightOf_7 : decode cX10_weightOf 7 = .ok (.ifCond .ne 7, 3) := by decide +kernel
theorem dX10_weightOf_10 : decode cX10_weightOf 10 = .ok (.iconst 1, 1) := by decide +kernel
theorem dX10_weightOf_11 : decode cX10_weightOf 11 = .ok (.goto 4, 3) := by decide +kernel
theorem dX10_weightOf_14 : decode cX10_weightOf 14 = .ok (.iconst 0, 1) := by decide +kernel
theorem dX10_weightOf_15 : decode cX10_weightOf 15 = .ok (.iconst 1, 1) := by decide +kernel
theorem dX10_weightOf_16 : decode cX10_weightOf 16 = .ok (.invokevirtual 51, 3) := by decide +kernel
theorem dX10_weightOf_19 : decode cX10_weightOf 19 = .ok (.ifCond .eq 7, 3) := by decide +kernel
theorem dX10_weightOf_22 : decode cX10_weightOf 22 = .ok (.iconst 0, 1) := by decide +kernel
theorem dX10_weightOf_23 : decode cX10_weightOf 23 = .ok (.goto 12, 3) := by decide +kernel
theorem dX10_weightOf_26 : decode cX10_weightOf 26 = .ok (.aload_n 0, 1) := by decide +kernel
theorem dX10_weightOf_27 : decode cX10_weightOf 27 = .ok (.getfield 9, 3) := by decide +kernel
theorem dX10_weightOf_30 : decode cX10_weightOf 30 = .ok (.bipush 14, 2) := by decide +kernel
theorem dX10_weightOf_32 : decode cX10_weightOf 32 = .ok (.iload_n 1, 1) := by decide +kernel
theorem dX10_weightOf_33 : decode cX10_weightOf 33 = .ok (.iadd, 1) := by decide +kernel
theorem dX10_weightOf_34 : decode cX10_weightOf 34 = .ok (.iaload, 1) := by decide +kernel
theorem dX10_weightOf_35 : decode cX10_weightOf 35 = .ok (.ireturn, 1) := by decide +kernel
theorem dX10_zone_0 : decode cX10_zone 0 = .ok (.bipush 100, 2) := by decide +kernel
theorem dX10_zone_2 : decode cX10_zone 2 = .ok (.iload_n 2, 1) := by decide +kernel
theorem dX10_zone_3 : decode cX10_zone 3 = .ok (.imul, 1) := by decide +kernel
theorem dX10_zone_4 : decode cX10_zone 4 = .ok (.aload_n 0, 1) := by decide +kernel
theorem dX10_zone_5 : decode cX10_zone 5 = .ok (.iload_n 1, 1) := by decide +kernel
theorem dX10_zone_6 : decode cX10_zone 6 = .ok (.invokevirtual 69, 3) := by decide +kernel
theorem dX10_zone_9 : decode cX10_zone 9 = .ok (.idiv, 1) := by decide +kernel
theorem dX10_zone_10 : decode cX10_zone 10 = .ok (.istore_n 3, 1) := by decide +kernel
theorem dX10_zone_11 : decode cX10_zone 11 = .ok (.iconst 1, 1) := by decide +kernel
theorem dX10_zone_12 : decode cX10_zone 12 = .ok (.istore 4, 2) := by decide +kernel
theorem dX10_zone_14 : decode cX10_zone 14 = .ok (.iconst 2, 1) := by decide +kernel
theorem dX10_zone_15 : decode cX10_zone 15 = .ok (.istore 5, 2) := by decide +kernel
theorem dX10_zone_17 : decode cX10_zone 17 = .ok (.iload 5, 2) := by decide +kernel
theorem dX10_zone_19 : decode cX10_zone 19 = .ok (.iconst 5, 1) := by decide +kernel
theorem dX10_zone_20 : decode cX10_zone 20 = .ok (.if_icmp .gt 32, 3) := by decide +kernel
theorem dX10_zone_23 : decode cX10_zone 23 = .ok (.aload_n 0, 1) := by decide +kernel
theorem dX10_zone_24 : decode cX10_zone 24 = .ok (.getfield 9, 3) := by decide +kernel
theorem dX10_zone_27 : decode cX10_zone 27 = .ok (.bipush 8, 2) := by decide +kernel
theorem dX10_zone_29 : decode cX10_zone 29 = .ok (.iload 5, 2) := by decide +kernel
theorem dX10_zone_31 : decode cX10_zone 31 = .ok (.iadd, 1) := by decide +kernel
theorem dX10_zone_32 : decode cX10_zone 32 = .ok (.iaload, 1) := by decide +kernel
theorem dX10_zone_33 : decode cX10_zone 33 = .ok (.iload_n 3, 1) := by decide +kernel
theorem dX10_zone_34 : decode cX10_zone 34 = .ok (.if_icmp .gt 8, 3) := by decide +kernel
theorem dX10_zone_37 : decode cX10_zone 37 = .ok (.iload 5, 2) := by decide +kernel
theorem dX10_zone_39 : decode cX10_zone 39 = .ok (.goto 5, 3) := by decide +kernel
theorem dX10_zone_42 : decode cX10_zone 42 = .ok (.iload 4, 2) := by decide +kernel
theorem dX10_zone_44 : decode cX10_zone 44 = .ok (.istore 4, 2) := by decide +kernel
theorem dX10_zone_46 : decode cX10_zone 46 = .ok (.iinc 5 1, 3) := by decide +kernel
theorem dX10_zone_49 : decode cX10_zone 49 = .ok (.goto (-32), 3) := by decide +kernel
theorem dX10_zone_52 : decode cX10_zone 52 = .ok (.iload 4, 2) := by decide +kernel
theorem dX10_zone_54 : decode cX10_zone 54 = .ok (.ireturn, 1) := by decide +kernel
theorem dX10_zoneOf_0 : decode cX10_zoneOf 0 = .ok (.aload_n 0, 1) := by decide +kernel
theorem dX10_zoneOf_1 : decode cX10_zoneOf 1 = .ok (.iload_n 1, 1) := by decide +kernel
theorem dX10_zoneOf_2 : decode cX10_zoneOf 2 = .ok (.iconst 0, 1) := by decide +kernel
theorem dX10_zoneOf_3 : decode cX10_zoneOf 3 = .ok (.sipush 199, 3) := by decide +kernel
theorem dX10_zoneOf_6 : decode cX10_zoneOf 6 = .ok (.invokestatic 47, 3) := by decide +kernel
theorem dX10_zoneOf_9 : decode cX10_zoneOf 9 = .ok (.ifCond .eq 14, 3) := by decide +kernel
theorem dX10_zoneOf_12 : decode cX10_zoneOf 12 = .ok (.iload_n 2, 1) := by decide +kernel
theorem dX10_zoneOf_13 : decode cX10_zoneOf 13 = .ok (.iconst 0, 1) := by decide +kernel
theorem dX10_zoneOf_14 : decode cX10_zoneOf 14 = .ok (.sipush 500, 3) := by decide +kernel
theorem dX10_zoneOf_17 : decode cX10_zoneOf 17 = .ok (.invokestatic 47, 3) := by decide +kernel
theorem dX10_zoneOf_20 : decode cX10_zoneOf 20 = .ok (.ifCond .ne 7, 3) := by decide +kernel
theorem dX10_zoneOf_23 : decode cX10_zoneOf 23 = .ok (.iconst 1, 1) := by decide +kernel
theorem dX10_zoneOf_24 : decode cX10_zoneOf 24 = .ok (.goto 4, 3) := by decide +kernel
theorem dX10_zoneOf_27 : decode cX10_zoneOf 27 = .ok (.iconst 0, 1) := by decide +kernel
theorem dX10_zoneOf_28 : decode cX10_zoneOf 28 = .ok (.iconst 1, 1) := by decide +kernel
theorem dX10_zoneOf_29 : decode cX10_zoneOf 29 = .ok (.invokevirtual 51, 3) := by decide +kernel
theorem dX10_zoneOf_32 : decode cX10_zoneOf 32 = .ok (.ifCond .eq 7, 3) := by decide +kernel
theorem dX10_zoneOf_35 : decode cX10_zoneOf 35 = .ok (.iconst 0, 1) := by decide +kernel
theorem dX10_zoneOf_36 : decode cX10_zoneOf 36 = .ok (.goto 9, 3) := by decide +kernel
theorem dX10_zoneOf_39 : decode cX10_zoneOf 39 = .ok (.aload_n 0, 1) := by decide +kernel
theorem dX10_zoneOf_40 : decode cX10_zoneOf 40 = .ok (.iload_n 1, 1) := by decide +kernel
theorem dX10_zoneOf_41 : decode cX10_zoneOf 41 = .ok (.iload_n 2, 1) := by decide +kernel
theorem dX10_zoneOf_42 : decode cX10_zoneOf 42 = .ok (.invokevirtual 72, 3) := by decide +kernel
theorem dX10_zoneOf_45 : decode cX10_zoneOf 45 = .ok (.ireturn, 1) := by decide +kernel
theorem dX10_at_0 : decode cX10_at 0 = .ok (.bipush 70, 2) := by decide +kernel
theorem dX10_at_2 : decode cX10_at 2 = .ok (.bipush 19, 2) := by decide +kernel
theorem dX10_at_4 : decode cX10_at 4 = .ok (.iload_n 1, 1) := by decide +kernel
theorem dX10_at_5 : decode cX10_at 5 = .ok (.imul, 1) := by decide +kernel
theorem dX10_at_6 : decode cX10_at 6 = .ok (.iadd, 1) := by decide +kernel
theorem dX10_at_7 : decode cX10_at 7 = .ok (.ireturn, 1) := by decide +kernel
theorem dX10_place_0 : decode cX10_place 0 = .ok (.iconst (-1), 1) := by decide +kernel
theorem dX10_place_1 : decode cX10_place 1 = .ok (.istore_n 2, 1) := by decide +kernel
theorem dX10_place_2 : decode cX10_place 2 = .ok (.iconst 0, 1) := by decide +kernel
theorem dX10_place_3 : decode cX10_place 3 = .ok (.istore_n 3, 1) := by decide +kernel
theorem dX10_place_4 : decode cX10_place 4 = .ok (.iload_n 3, 1) := by decide +kernel
theorem dX10_place_5 : decode cX10_place 5 = .ok (.aload_n 0, 1) := by decide +kernel
theorem dX10_place_6 : decode cX10_place 6 = .ok (.getfield 9, 3) := by decide +kernel
theorem dX10_place_9 : decode cX10_place 9 = .ok (.iconst 2, 1) := by decide +kernel
theorem dX10_place_10 : decode cX10_place 10 = .ok (.iaload, 1) := by decide +kernel
theorem dX10_place_11 : decode cX10_place 11 = .ok (.if_icmp .ge 29, 3) := by decide +kernel
theorem dX10_place_14 : decode cX10_place 14 = .ok (.aload_n 0, 1) := by decide +kernel
theorem dX10_place_15 : decode cX10_place 15 = .ok (.getfield 9, 3) := by decide +kernel
theorem dX10_place_18 : decode cX10_place 18 = .ok (.aload_n 0, 1) := by decide +kernel
theorem dX10_place_19 : decode cX10_place 19 = .ok (.iload_n 3, 1) := by decide +kernel
theorem dX10_place_20 : decode cX10_place 20 = .ok (.invokevirtual 75, 3) := by decide +kernel
theorem dX10_place_23 : decode cX10_place 23 = .ok (.iaload, 1) := by decide +kernel
theorem dX10_place_24 : decode cX10_place 24 = .ok (.iload_n 1, 1) := by decide +kernel
theorem dX10_place_25 : decode cX10_place 25 = .ok (.if_icmp .ne 7, 3) := by decide +kernel
theorem dX10_place_28 : decode cX10_place 28 = .ok (.iload_n 3, 1) := by decide +kernel
theorem dX10_place_29 : decode cX10_place 29 = .ok (.goto 4, 3) := by decide +kernel
theorem dX10_place_32 : decode cX10_place 32 = .ok (.iload_n 2, 1) := by decide +kernel
theorem dX10_place_33 : decode cX10_place 33 = .ok (.istore_n 2, 1) := by decide +kernel
theorem dX10_place_34 : decode cX10_place 34 = .ok (.iinc 3 1, 3) := by decide +kernel
theorem dX10_place_37 : decode cX10_place 37 = .ok (.goto (-33), 3) := by decide +kernel
theorem dX10_place_40 : decode cX10_place 40 = .ok (.iload_n 2, 1) := by decide +kernel
theorem dX10_place_41 : decode cX10_place 41 = .ok (.ireturn, 1) := by decide +kernel
theorem dX10_minutes_0 : decode cX10_minutes 0 = .ok (.iconst 0, 1) := by decide +kernel
theorem dX10_minutes_1 : decode cX10_minutes 1 = .ok (.istore_n 2, 1) := by decide +kernel
theorem dX10_minutes_2 : decode cX10_minutes 2 = .ok (.iconst 0, 1) := by decide +kernel
theorem dX10_minutes_3 : decode cX10_minutes 3 = .ok (.istore_n 3, 1) := by decide +kernel
theorem dX10_minutes_4 : decode cX10_minutes 4 = .ok (.iload_n 3, 1) := by decide +kernel
theorem dX10_minutes_5 : decode cX10_minutes 5 = .ok (.aload_n 0, 1) := by decide +kernel
theorem dX10_minutes_6 : decode cX10_minutes 6 = .ok (.getfield 9, 3) := by decide +kernel
theorem dX10_minutes_9 : decode cX10_minutes 9 = .ok (.aload_n 0, 1) := by decide +kernel
theorem dX10_minutes_10 : decode cX10_minutes 10 = .ok (.iload_n 1, 1) := by decide +kernel
theorem dX10_minutes_11 : decode cX10_minutes 11 = .ok (.invokevirtual 75, 3) := by decide +kernel
theorem dX10_minutes_14 : decode cX10_minutes 14 = .ok (.iconst 2, 1) := by decide +kernel
theorem dX10_minutes_15 : decode cX10_minutes 15 = .ok (.iadd, 1) := by decide +kernel
theorem dX10_minutes_16 : decode cX10_minutes 16 = .ok (.iaload, 1) := by decide +kernel
theorem dX10_minutes_17 : decode cX10_minutes 17 = .ok (.if_icmp .ge 26, 3) := by decide +kernel
theorem dX10_minutes_20 : decode cX10_minutes 20 = .ok (.iload_n 2, 1) := by decide +kernel
theorem dX10_minutes_21 : decode cX10_minutes 21 = .ok (.aload_n 0, 1) := by decide +kernel
theorem dX10_minutes_22 : decode cX10_minutes 22 = .ok (.getfield 9, 3) := by decide +kernel
theorem dX10_minutes_25 : decode cX10_minutes 25 = .ok (.aload_n 0, 1) := by decide +kernel
theorem dX10_minutes_26 : decode cX10_minutes 26 = .ok (.iload_n 1, 1) := by decide +kernel
theorem dX10_minutes_27 : decode cX10_minutes 27 = .ok (.invokevirtual 75, 3) := by decide +kernel
theorem dX10_minutes_30 : decode cX10_minutes 30 = .ok (.iconst 3, 1) := by decide +kernel
theorem dX10_minutes_31 : decode cX10_minutes 31 = .ok (.iadd, 1) := by decide +kernel
theorem dX10_minutes_32 : decode cX10_minutes 32 = .ok (.iload_n 3, 1) := by decide +kernel
theorem dX10_minutes_33 : decode cX10_minutes 33 = .ok (.iadd, 1) := by decide +kernel
theorem dX10_minutes_34 : decode cX10_minutes 34 = .ok (.iaload, 1) := by decide +kernel
theorem dX10_minutes_35 : decode cX10_minutes 35 = .ok (.iadd, 1) := by decide +kernel
theorem dX10_minutes_36 : decode cX10_minutes 36 = .ok (.istore_n 2, 1) := by decide +kernel
theorem dX10_minutes_37 : decode cX10_minutes 37 = .ok (.iinc 3 1, 3) := by decide +kernel
theorem dX10_minutes_40 : decode cX10_minutes 40 = .ok (.goto (-36), 3) := by decide +kernel
theorem dX10_minutes_43 : decode cX10_minutes 43 = .ok (.iload_n 2, 1) := by decide +kernel
theorem dX10_minutes_44 : decode cX10_minutes 44 = .ok (.ireturn, 1) := by decide +kernel
theorem dX10_zones_0 : decode cX10_zones 0 = .ok (.iconst 0, 1) := by decide +kernel
theorem dX10_zones_1 : decode cX10_zones 1 = .ok (.istore_n 2, 1) := by decide +kernel
theorem dX10_zones_2 : decode cX10_zones 2 = .ok (.iload_n 2, 1) := by decide +kernel
theorem dX10_zones_3 : decode cX10_zones 3 = .ok (.aload_n 0, 1) := by decide +kernel
theorem dX10_zones_4 : decode cX10_zones 4 = .ok (.getfield 9, 3) := by decide +kernel
theorem dX10_zones_7 : decode cX10_zones 7 = .ok (.aload_n 0, 1) := by decide +kernel
theorem dX10_zones_8 : decode cX10_zones 8 = .ok (.iload_n 1, 1) := by decide +kernel
theorem dX10_zones_9 : decode cX10_zones 9 = .ok (.invokevirtual 75, 3) := by decide +kernel
theorem dX10_zones_12 : decode cX10_zones 12 = .ok (.iconst 2, 1) := by decide +kernel
theorem dX10_zones_13 : decode cX10_zones 13 = .ok (.iadd, 1) := by decide +kernel
theorem dX10_zones_14 : decode cX10_zones 14 = .ok (.iaload, 1) := by decide +kernel
theorem dX10_zones_15 : decode cX10_zones 15 = .ok (.if_icmp .ge 64, 3) := by decide +kernel
theorem dX10_zones_18 : decode cX10_zones 18 = .ok (.aload_n 0, 1) := by decide +kernel
theorem dX10_zones_19 : decode cX10_zones 19 = .ok (.getfield 24, 3) := by decide +kernel
theorem dX10_zones_22 : decode cX10_zones 22 = .ok (.aload_n 0, 1) := by decide +kernel
theorem dX10_zones_23 : decode cX10_zones 23 = .ok (.aload_n 0, 1) := by decide +kernel
theorem dX10_zones_24 : decode cX10_zones 24 = .ok (.getfield 9, 3) := by decide +kernel
theorem dX10_zones_27 : decode cX10_zones 27 = .ok (.aload_n 0, 1) := by decide +kernel
theorem dX10_zones_28 : decode cX10_zones 28 = .ok (.iload_n 1, 1) := by decide +kernel
theorem dX10_zones_29 : decode cX10_zones 29 = .ok (.invokevirtual 75, 3) := by decide +kernel
theorem dX10_zones_32 : decode cX10_zones 32 = .ok (.iconst 1, 1) := by decide +kernel
theorem dX10_zones_33 : decode cX10_zones 33 = .ok (.iadd, 1) := by decide +kernel
theorem dX10_zones_34 : decode cX10_zones 34 = .ok (.iaload, 1) := by decide +kernel
theorem dX10_zones_35 : decode cX10_zones 35 = .ok (.aload_n 0, 1) := by decide +kernel
theorem dX10_zones_36 : decode cX10_zones 36 = .ok (.getfield 9, 3) := by decide +kernel
theorem dX10_zones_39 : decode cX10_zones 39 = .ok (.aload_n 0, 1) := by decide +kernel
theorem dX10_zones_40 : decode cX10_zones 40 = .ok (.iload_n 1, 1) := by decide +kernel
theorem dX10_zones_41 : decode cX10_zones 41 = .ok (.invokevirtual 75, 3) := by decide +kernel
theorem dX10_zones_44 : decode cX10_zones 44 = .ok (.iconst 3, 1) := by decide +kernel
theorem dX10_zones_45 : decode cX10_zones 45 = .ok (.iadd, 1) := by decide +kernel
theorem dX10_zones_46 : decode cX10_zones 46 = .ok (.bipush 8, 2) := by decide +kernel
theorem dX10_zones_48 : decode cX10_zones 48 = .ok (.iadd, 1) := by decide +kernel
theorem dX10_zones_49 : decode cX10_zones 49 = .ok (.iload_n 2, 1) := by decide +kernel
theorem dX10_zones_50 : decode cX10_zones 50 = .ok (.iadd, 1) := by decide +kernel
theorem dX10_zones_51 : decode cX10_zones 51 = .ok (.iaload, 1) := by decide +kernel
theorem dX10_zones_52 : decode cX10_zones 52 = .ok (.invokevirtual 72, 3) := by decide +kernel
theorem dX10_zones_55 : decode cX10_zones 55 = .ok (.dup2, 1) := by decide +kernel
theorem dX10_zones_56 : decode cX10_zones 56 = .ok (.iaload, 1) := by decide +kernel
theorem dX10_zones_57 : decode cX10_zones 57 = .ok (.aload_n 0, 1) := by decide +kernel
theorem dX10_zones_58 : decode cX10_zones 58 = .ok (.getfield 9, 3) := by decide +kernel
theorem dX10_zones_61 : decode cX10_zones 61 = .ok (.aload_n 0, 1) := by decide +kernel
theorem dX10_zones_62 : decode cX10_zones 62 = .ok (.iload_n 1, 1) := by decide +kernel
theorem dX10_zones_63 : decode cX10_zones 63 = .ok (.invokevirtual 75, 3) := by decide +kernel
theorem dX10_zones_66 : decode cX10_zones 66 = .ok (.iconst 3, 1) := by decide +kernel
theorem dX10_zones_67 : decode cX10_zones 67 = .ok (.iadd, 1) := by decide +kernel
theorem dX10_zones_68 : decode cX10_zones 68 = .ok (.iload_n 2, 1) := by decide +kernel
theorem dX10_zones_69 : decode cX10_zones 69 = .ok (.iadd, 1) := by decide +kernel
theorem dX10_zones_70 : decode cX10_zones 70 = .ok (.iaload, 1) := by decide +kernel
theorem dX10_zones_71 : decode cX10_zones 71 = .ok (.iadd, 1) := by decide +kernel
theorem dX10_zones_72 : decode cX10_zones 72 = .ok (.iastore, 1) := by decide +kernel
theorem dX10_zones_73 : decode cX10_zones 73 = .ok (.iinc 2 1, 3) := by decide +kernel
theorem dX10_zones_76 : decode cX10_zones 76 = .ok (.goto (-74), 3) := by decide +kernel
theorem dX10_zones_79 : decode cX10_zones 79 = .ok (.return_, 1) := by decide +kernel
theorem dX10_noZones_0 : decode cX10_noZones 0 = .ok (.iconst 0, 1) := by decide +kernel
theorem dX10_noZones_1 : decode cX10_noZones 1 = .ok (.istore_n 1, 1) := by decide +kernel
theorem dX10_noZones_2 : decode cX10_noZones 2 = .ok (.iload_n 1, 1) := by decide +kernel
theorem dX10_noZones_3 : decode cX10_noZones 3 = .ok (.bipush 6, 2) := by decide +kernel
theorem dX10_noZones_5 : decode cX10_noZones 5 = .ok (.if_icmp .ge 16, 3) := by decide +kernel
theorem dX10_noZones_8 : decode cX10_noZones 8 = .ok (.aload_n 0, 1) := by decide +kernel
theorem dX10_noZones_9 : decode cX10_noZones 9 = .ok (.getfield 24, 3) := by decide +kernel
theorem dX10_noZones_12 : decode cX10_noZones 12 = .ok (.iload_n 1, 1) := by decide +kernel
theorem dX10_noZones_13 : decode cX10_noZones 13 = .ok (.iconst 0, 1) := by decide +kernel
theorem dX10_noZones_14 : decode cX10_noZones 14 = .ok (.iastore, 1) := by decide +kernel
theorem dX10_noZones_15 : decode cX10_noZones 15 = .ok (.iinc 1 1, 3) := by decide +kernel
theorem dX10_noZones_18 : decode cX10_noZones 18 = .ok (.goto (-16), 3) := by decide +kernel
theorem dX10_noZones_21 : decode cX10_noZones 21 = .ok (.return_, 1) := by decide +kernel
theorem dX10_loadAt_0 : decode cX10_loadAt 0 = .ok (.aload_n 0, 1) := by decide +kernel
theorem dX10_loadAt_1 : decode cX10_loadAt 1 = .ok (.invokevirtual 78, 3) := by decide +kernel
theorem dX10_loadAt_4 : decode cX10_loadAt 4 = .ok (.aload_n 0, 1) := by decide +kernel
theorem dX10_loadAt_5 : decode cX10_loadAt 5 = .ok (.iload_n 1, 1) := by decide +kernel
theorem dX10_loadAt_6 : decode cX10_loadAt 6 = .ok (.invokevirtual 81, 3) := by decide +kernel
theorem dX10_loadAt_9 : decode cX10_loadAt 9 = .ok (.iconst 0, 1) := by decide +kernel
theorem dX10_loadAt_10 : decode cX10_loadAt 10 = .ok (.istore_n 2, 1) := by decide +kernel
theorem dX10_loadAt_11 : decode cX10_loadAt 11 = .ok (.iconst 1, 1) := by decide +kernel
theorem dX10_loadAt_12 : decode cX10_loadAt 12 = .ok (.istore_n 3, 1) := by decide +kernel
theorem dX10_loadAt_13 : decode cX10_loadAt 13 = .ok (.iload_n 3, 1) := by decide +kernel
theorem dX10_loadAt_14 : decode cX10_loadAt 14 = .ok (.iconst 5, 1) := by decide +kernel
theorem dX10_loadAt_15 : decode cX10_loadAt 15 = .ok (.if_icmp .gt 28, 3) := by decide +kernel
theorem dX10_loadAt_18 : decode cX10_loadAt 18 = .ok (.iload_n 2, 1) := by decide +kernel
theorem dX10_loadAt_19 : decode cX10_loadAt 19 = .ok (.aload_n 0, 1) := by decide +kernel
theorem dX10_loadAt_20 : decode cX10_loadAt 20 = .ok (.getfield 24, 3) := by decide +kernel
theorem dX10_loadAt_23 : decode cX10_loadAt 23 = .ok (.iload_n 3, 1) := by decide +kernel
theorem dX10_loadAt_24 : decode cX10_loadAt 24 = .ok (.iaload, 1) := by decide +kernel
theorem dX10_loadAt_25 : decode cX10_loadAt 25 = .ok (.aload_n 0, 1) := by decide +kernel
theorem dX10_loadAt_26 : decode cX10_loadAt 26 = .ok (.getfield 9, 3) := by decide +kernel
theorem dX10_loadAt_29 : decode cX10_loadAt 29 = .ok (.bipush 14, 2) := by decide +kernel
theorem dX10_loadAt_31 : decode cX10_loadAt 31 = .ok (.iload_n 3, 1) := by decide +kernel
theorem dX10_loadAt_32 : decode cX10_loadAt 32 = .ok (.iadd, 1) := by decide +kernel
theorem dX10_loadAt_33 : decode cX10_loadAt 33 = .ok (.iaload, 1) := by decide +kernel
theorem dX10_loadAt_34 : decode cX10_loadAt 34 = .ok (.imul, 1) := by decide +kernel
theorem dX10_loadAt_35 : decode cX10_loadAt 35 = .ok (.iadd, 1) := by decide +kernel
theorem dX10_loadAt_36 : decode cX10_loadAt 36 = .ok (.istore_n 2, 1) := by decide +kernel
theorem dX10_loadAt_37 : decode cX10_loadAt 37 = .ok (.iinc 3 1, 3) := by decide +kernel
theorem dX10_loadAt_40 : decode cX10_loadAt 40 = .ok (.goto (-27), 3) := by decide +kernel
theorem dX10_loadAt_43 : decode cX10_loadAt 43 = .ok (.iload_n 2, 1) := by decide +kernel
theorem dX10_loadAt_44 : decode cX10_loadAt 44 = .ok (.ireturn, 1) := by decide +kernel
theorem dX10_addSession_0 : decode cX10_addSession 0 = .ok (.aload_n 0, 1) := by decide +kernel
theorem dX10_addSession_1 : decode cX10_addSession 1 = .ok (.aload_n 0, 1) := by decide +kernel
theorem dX10_addSession_2 : decode cX10_addSession 2 = .ok (.iload_n 1, 1) := by decide +kernel
theorem dX10_addSession_3 : decode cX10_addSession 3 = .ok (.invokevirtual 58, 3) := by decide +kernel
theorem dX10_addSession_6 : decode cX10_addSession 6 = .ok (.iconst 1, 1) := by decide +kernel
theorem dX10_addSession_7 : decode cX10_addSession 7 = .ok (.invokevirtual 51, 3) := by decide +kernel
theorem dX10_addSession_10 : decode cX10_addSession 10 = .ok (.ifCond .ne 27, 3) := by decide +kernel
theorem dX10_addSession_13 : decode cX10_addSession 13 = .ok (.aload_n 0, 1) := by decide +kernel
theorem dX10_addSession_14 : decode cX10_addSession 14 = .ok (.aload_n 0, 1) := by decide +kernel
theorem dX10_addSession_15 : decode cX10_addSession 15 = .ok (.getfield 9, 3) := by decide +kernel
theorem dX10_addSession_18 : decode cX10_addSession 18 = .ok (.iconst 2, 1) := by decide +kernel
theorem dX10_addSession_19 : decode cX10_addSession 19 = .ok (.iaload, 1) := by decide +kernel
theorem dX10_addSession_20 : decode cX10_addSession 20 = .ok (.bipush 40, 2) := by decide +kernel
theorem dX10_addSession_22 : decode cX10_addSession 22 = .ok (.if_icmp .ne 7, 3) := by decide +kernel
theorem dX10_addSession_25 : decode cX10_addSession 25 = .ok (.iconst 1, 1) := by decide +kernel
theorem dX10_addSession_26 : decode cX10_addSession 26 = .ok (.goto 4, 3) := by decide +kernel
theorem dX10_addSession_29 : decode cX10_addSession 29 = .ok (.iconst 0, 1) := by decide +kernel
theorem dX10_addSession_30 : decode cX10_addSession 30 = .ok (.iconst 2, 1) := by decide +kernel
theorem dX10_addSession_31 : decode cX10_addSession 31 = .ok (.invokevirtual 51, 3) := by decide +kernel
theorem dX10_addSession_34 : decode cX10_addSession 34 = .ok (.ifCond .eq 5, 3) := by decide +kernel
theorem dX10_addSession_37 : decode cX10_addSession 37 = .ok (.iconst 0, 1) := by decide +kernel
theorem dX10_addSession_38 : decode cX10_addSession 38 = .ok (.ireturn, 1) := by decide +kernel
theorem dX10_addSession_39 : decode cX10_addSession 39 = .ok (.aload_n 0, 1) := by decide +kernel
theorem dX10_addSession_40 : decode cX10_addSession 40 = .ok (.invokevirtual 55, 3) := by decide +kernel
theorem dX10_addSession_43 : decode cX10_addSession 43 = .ok (.aload_n 0, 1) := by decide +kernel
theorem dX10_addSession_44 : decode cX10_addSession 44 = .ok (.aload_n 0, 1) := by decide +kernel
theorem dX10_addSession_45 : decode cX10_addSession 45 = .ok (.getfield 9, 3) := by decide +kernel
theorem dX10_addSession_48 : decode cX10_addSession 48 = .ok (.iconst 2, 1) := by decide +kernel
theorem dX10_addSession_49 : decode cX10_addSession 49 = .ok (.iaload, 1) := by decide +kernel
theorem dX10_addSession_50 : decode cX10_addSession 50 = .ok (.invokevirtual 75, 3) := by decide +kernel
theorem dX10_addSession_53 : decode cX10_addSession 53 = .ok (.istore_n 2, 1) := by decide +kernel
theorem dX10_addSession_54 : decode cX10_addSession 54 = .ok (.aload_n 0, 1) := by decide +kernel
theorem dX10_addSession_55 : decode cX10_addSession 55 = .ok (.getfield 9, 3) := by decide +kernel
theorem dX10_addSession_58 : decode cX10_addSession 58 = .ok (.iload_n 2, 1) := by decide +kernel
theorem dX10_addSession_59 : decode cX10_addSession 59 = .ok (.aload_n 0, 1) := by decide +kernel
theorem dX10_addSession_60 : decode cX10_addSession 60 = .ok (.getfield 9, 3) := by decide +kernel
theorem dX10_addSession_63 : decode cX10_addSession 63 = .ok (.iconst 1, 1) := by decide +kernel
theorem dX10_addSession_64 : decode cX10_addSession 64 = .ok (.iaload, 1) := by decide +kernel
theorem dX10_addSession_65 : decode cX10_addSession 65 = .ok (.iastore, 1) := by decide +kernel
theorem dX10_addSession_66 : decode cX10_addSession 66 = .ok (.aload_n 0, 1) := by decide +kernel
theorem dX10_addSession_67 : decode cX10_addSession 67 = .ok (.getfield 9, 3) := by decide +kernel
theorem dX10_addSession_70 : decode cX10_addSession 70 = .ok (.iload_n 2, 1) := by decide +kernel
theorem dX10_addSession_71 : decode cX10_addSession 71 = .ok (.iconst 1, 1) := by decide +kernel
theorem dX10_addSession_72 : decode cX10_addSession 72 = .ok (.iadd, 1) := by decide +kernel
theorem dX10_addSession_73 : decode cX10_addSession 73 = .ok (.iload_n 1, 1) := by decide +kernel
theorem dX10_addSession_74 : decode cX10_addSession 74 = .ok (.iastore, 1) := by decide +kernel
theorem dX10_addSession_75 : decode cX10_addSession 75 = .ok (.aload_n 0, 1) := by decide +kernel
theorem dX10_addSession_76 : decode cX10_addSession 76 = .ok (.getfield 9, 3) := by decide +kernel
theorem dX10_addSession_79 : decode cX10_addSession 79 = .ok (.iload_n 2, 1) := by decide +kernel
theorem dX10_addSession_80 : decode cX10_addSession 80 = .ok (.iconst 2, 1) := by decide +kernel
theorem dX10_addSession_81 : decode cX10_addSession 81 = .ok (.iadd, 1) := by decide +kernel
theorem dX10_addSession_82 : decode cX10_addSession 82 = .ok (.iconst 0, 1) := by decide +kernel
theorem dX10_addSession_83 : decode cX10_addSession 83 = .ok (.iastore, 1) := by decide +kernel
theorem dX10_addSession_84 : decode cX10_addSession 84 = .ok (.aload_n 0, 1) := by decide +kernel
theorem dX10_addSession_85 : decode cX10_addSession 85 = .ok (.getfield 9, 3) := by decide +kernel
theorem dX10_addSession_88 : decode cX10_addSession 88 = .ok (.iconst 2, 1) := by decide +kernel
theorem dX10_addSession_89 : decode cX10_addSession 89 = .ok (.dup2, 1) := by decide +kernel
theorem dX10_addSession_90 : decode cX10_addSession 90 = .ok (.iaload, 1) := by decide +kernel
theorem dX10_addSession_91 : decode cX10_addSession 91 = .ok (.iconst 1, 1) := by decide +kernel
theorem dX10_addSession_92 : decode cX10_addSession 92 = .ok (.iadd, 1) := by decide +kernel
theorem dX10_addSession_93 : decode cX10_addSession 93 = .ok (.iastore, 1) := by decide +kernel
theorem dX10_addSession_94 : decode cX10_addSession 94 = .ok (.aload_n 0, 1) := by decide +kernel
theorem dX10_addSession_95 : decode cX10_addSession 95 = .ok (.getfield 9, 3) := by decide +kernel
theorem dX10_addSession_98 : decode cX10_addSession 98 = .ok (.iconst 1, 1) := by decide +kernel
theorem dX10_addSession_99 : decode cX10_addSession 99 = .ok (.dup2, 1) := by decide +kernel
theorem dX10_addSession_100 : decode cX10_addSession 100 = .ok (.iaload, 1) := by decide +kernel
theorem dX10_addSession_101 : decode cX10_addSession 101 = .ok (.iconst 1, 1) := by decide +kernel
theorem dX10_addSession_102 : decode cX10_addSession 102 = .ok (.iadd, 1) := by decide +kernel
theorem dX10_addSession_103 : decode cX10_addSession 103 = .ok (.iastore, 1) := by decide +kernel
theorem dX10_addSession_104 : decode cX10_addSession 104 = .ok (.aload_n 0, 1) := by decide +kernel
theorem dX10_addSession_105 : decode cX10_addSession 105 = .ok (.getfield 9, 3) := by decide +kernel
theorem dX10_addSession_108 : decode cX10_addSession 108 = .ok (.iload_n 2, 1) := by decide +kernel
theorem dX10_addSession_109 : decode cX10_addSession 109 = .ok (.iaload, 1) := by decide +kernel
theorem dX10_addSession_110 : decode cX10_addSession 110 = .ok (.ireturn, 1) := by decide +kernel
theorem dX10_addPart_0 : decode cX10_addPart 0 = .ok (.aload_n 0, 1) := by decide +kernel
theorem dX10_addPart_1 : decode cX10_addPart 1 = .ok (.iload_n 1, 1) := by decide +kernel
theorem dX10_addPart_2 : decode cX10_addPart 2 = .ok (.invokevirtual 84, 3) := by decide +kernel
theorem dX10_addPart_5 : decode cX10_addPart 5 = .ok (.istore 4, 2) := by decide +kernel
theorem dX10_addPart_7 : decode cX10_addPart 7 = .ok (.aload_n 0, 1) := by decide +kernel
theorem dX10_addPart_8 : decode cX10_addPart 8 = .ok (.iload 4, 2) := by decide +kernel
theorem dX10_addPart_10 : decode cX10_addPart 10 = .ok (.ifCond .ge 7, 3) := by decide +kernel
theorem dX10_addPart_13 : decode cX10_addPart 13 = .ok (.iconst 1, 1) := by decide +kernel
theorem dX10_addPart_14 : decode cX10_addPart 14 = .ok (.goto 4, 3) := by decide +kernel
theorem dX10_addPart_17 : decode cX10_addPart 17 = .ok (.iconst 0, 1) := by decide +kernel
theorem dX10_addPart_18 : decode cX10_addPart 18 = .ok (.iconst 1, 1) := by decide +kernel
theorem dX10_addPart_19 : decode cX10_addPart 19 = .ok (.invokevirtual 51, 3) := by decide +kernel
theorem dX10_addPart_22 : decode cX10_addPart 22 = .ok (.ifCond .ne 82, 3) := by decide +kernel
theorem dX10_addPart_25 : decode cX10_addPart 25 = .ok (.aload_n 0, 1) := by decide +kernel
theorem dX10_addPart_26 : decode cX10_addPart 26 = .ok (.iload_n 2, 1) := by decide +kernel
theorem dX10_addPart_27 : decode cX10_addPart 27 = .ok (.iconst 1, 1) := by decide +kernel
theorem dX10_addPart_28 : decode cX10_addPart 28 = .ok (.bipush 120, 2) := by decide +kernel
theorem dX10_addPart_30 : decode cX10_addPart 30 = .ok (.invokestatic 47, 3) := by decide +kernel
theorem dX10_addPart_33 : decode cX10_addPart 33 = .ok (.ifCond .eq 14, 3) := by decide +kernel
theorem dX10_addPart_36 : decode cX10_addPart 36 = .ok (.iload_n 3, 1) := by decide +kernel
theorem dX10_addPart_37 : decode cX10_addPart 37 = .ok (.iconst 0, 1) := by decide +kernel
theorem dX10_addPart_38 : decode cX10_addPart 38 = .ok (.sipush 500, 3) := by decide +kernel
theorem dX10_addPart_41 : decode cX10_addPart 41 = .ok (.invokestatic 47, 3) := by decide +kernel
theorem dX10_addPart_44 : decode cX10_addPart 44 = .ok (.ifCond .ne 7, 3) := by decide +kernel
theorem dX10_addPart_47 : decode cX10_addPart 47 = .ok (.iconst 1, 1) := by decide +kernel
theorem dX10_addPart_48 : decode cX10_addPart 48 = .ok (.goto 4, 3) := by decide +kernel
theorem dX10_addPart_51 : decode cX10_addPart 51 = .ok (.iconst 0, 1) := by decide +kernel
theorem dX10_addPart_52 : decode cX10_addPart 52 = .ok (.iconst 2, 1) := by decide +kernel
theorem dX10_addPart_53 : decode cX10_addPart 53 = .ok (.invokevirtual 51, 3) := by decide +kernel
theorem dX10_addPart_56 : decode cX10_addPart 56 = .ok (.ifCond .ne 48, 3) := by decide +kernel
theorem dX10_addPart_59 : decode cX10_addPart 59 = .ok (.aload_n 0, 1) := by decide +kernel
theorem dX10_addPart_60 : decode cX10_addPart 60 = .ok (.aload_n 0, 1) := by decide +kernel
theorem dX10_addPart_61 : decode cX10_addPart 61 = .ok (.getfield 9, 3) := by decide +kernel
theorem dX10_addPart_64 : decode cX10_addPart 64 = .ok (.aload_n 0, 1) := by decide +kernel
theorem dX10_addPart_65 : decode cX10_addPart 65 = .ok (.iload 4, 2) := by decide +kernel
theorem dX10_addPart_67 : decode cX10_addPart 67 = .ok (.invokevirtual 75, 3) := by decide +kernel
theorem dX10_addPart_70 : decode cX10_addPart 70 = .ok (.iconst 2, 1) := by decide +kernel
theorem dX10_addPart_71 : decode cX10_addPart 71 = .ok (.iadd, 1) := by decide +kernel
theorem dX10_addPart_72 : decode cX10_addPart 72 = .ok (.iaload, 1) := by decide +kernel
theorem dX10_addPart_73 : decode cX10_addPart 73 = .ok (.bipush 8, 2) := by decide +kernel
theorem dX10_addPart_75 : decode cX10_addPart 75 = .ok (.if_icmp .eq 17, 3) := by decide +kernel
theorem dX10_addPart_78 : decode cX10_addPart 78 = .ok (.aload_n 0, 1) := by decide +kernel
theorem dX10_addPart_79 : decode cX10_addPart 79 = .ok (.iload 4, 2) := by decide +kernel
theorem dX10_addPart_81 : decode cX10_addPart 81 = .ok (.invokevirtual 87, 3) := by decide +kernel
theorem dX10_addPart_84 : decode cX10_addPart 84 = .ok (.iload_n 2, 1) := by decide +kernel
theorem dX10_addPart_85 : decode cX10_addPart 85 = .ok (.iadd, 1) := by decide +kernel
theorem dX10_addPart_86 : decode cX10_addPart 86 = .ok (.sipush 240, 3) := by decide +kernel
theorem dX10_addPart_89 : decode cX10_addPart 89 = .ok (.if_icmp .le 7, 3) := by decide +kernel
theorem dX10_addPart_92 : decode cX10_addPart 92 = .ok (.iconst 1, 1) := by decide +kernel
theorem dX10_addPart_93 : decode cX10_addPart 93 = .ok (.goto 4, 3) := by decide +kernel
theorem dX10_addPart_96 : decode cX10_addPart 96 = .ok (.iconst 0, 1) := by decide +kernel
theorem dX10_addPart_97 : decode cX10_addPart 97 = .ok (.iconst 3, 1) := by decide +kernel
theorem dX10_addPart_98 : decode cX10_addPart 98 = .ok (.invokevirtual 51, 3) := by decide +kernel
theorem dX10_addPart_101 : decode cX10_addPart 101 = .ok (.ifCond .eq 5, 3) := by decide +kernel
theorem dX10_addPart_104 : decode cX10_addPart 104 = .ok (.iconst 0, 1) := by decide +kernel
theorem dX10_addPart_105 : decode cX10_addPart 105 = .ok (.ireturn, 1) := by decide +kernel
theorem dX10_addPart_106 : decode cX10_addPart 106 = .ok (.aload_n 0, 1) := by decide +kernel
theorem dX10_addPart_107 : decode cX10_addPart 107 = .ok (.invokevirtual 55, 3) := by decide +kernel
theorem dX10_addPart_110 : decode cX10_addPart 110 = .ok (.aload_n 0, 1) := by decide +kernel
theorem dX10_addPart_111 : decode cX10_addPart 111 = .ok (.getfield 9, 3) := by decide +kernel
theorem dX10_addPart_114 : decode cX10_addPart 114 = .ok (.aload_n 0, 1) := by decide +kernel
theorem dX10_addPart_115 : decode cX10_addPart 115 = .ok (.iload 4, 2) := by decide +kernel
theorem dX10_addPart_117 : decode cX10_addPart 117 = .ok (.invokevirtual 75, 3) := by decide +kernel
theorem dX10_addPart_120 : decode cX10_addPart 120 = .ok (.iconst 2, 1) := by decide +kernel
theorem dX10_addPart_121 : decode cX10_addPart 121 = .ok (.iadd, 1) := by decide +kernel
theorem dX10_addPart_122 : decode cX10_addPart 122 = .ok (.iaload, 1) := by decide +kernel
theorem dX10_addPart_123 : decode cX10_addPart 123 = .ok (.istore 5, 2) := by decide +kernel
theorem dX10_addPart_125 : decode cX10_addPart 125 = .ok (.aload_n 0, 1) := by decide +kernel
theorem dX10_addPart_126 : decode cX10_addPart 126 = .ok (.getfield 9, 3) := by decide +kernel
theorem dX10_addPart_129 : decode cX10_addPart 129 = .ok (.aload_n 0, 1) := by decide +kernel
theorem dX10_addPart_130 : decode cX10_addPart 130 = .ok (.iload 4, 2) := by decide +kernel
theorem dX10_addPart_132 : decode cX10_addPart 132 = .ok (.invokevirtual 75, 3) := by decide +kernel
theorem dX10_addPart_135 : decode cX10_addPart 135 = .ok (.iconst 3, 1) := by decide +kernel
theorem dX10_addPart_136 : decode cX10_addPart 136 = .ok (.iadd, 1) := by decide +kernel
theorem dX10_addPart_137 : decode cX10_addPart 137 = .ok (.iload 5, 2) := by decide +kernel
theorem dX10_addPart_139 : decode cX10_addPart 139 = .ok (.iadd, 1) := by decide +kernel
theorem dX10_addPart_140 : decode cX10_addPart 140 = .ok (.iload_n 2, 1) := by decide +kernel
theorem dX10_addPart_141 : decode cX10_addPart 141 = .ok (.iastore, 1) := by decide +kernel
theorem dX10_addPart_142 : decode cX10_addPart 142 = .ok (.aload_n 0, 1) := by decide +kernel
theorem dX10_addPart_143 : decode cX10_addPart 143 = .ok (.getfield 9, 3) := by decide +kernel
theorem dX10_addPart_146 : decode cX10_addPart 146 = .ok (.aload_n 0, 1) := by decide +kernel
theorem dX10_addPart_147 : decode cX10_addPart 147 = .ok (.iload 4, 2) := by decide +kernel
theorem dX10_addPart_149 : decode cX10_addPart 149 = .ok (.invokevirtual 75, 3) := by decide +kernel
theorem dX10_addPart_152 : decode cX10_addPart 152 = .ok (.iconst 3, 1) := by decide +kernel
theorem dX10_addPart_153 : decode cX10_addPart 153 = .ok (.iadd, 1) := by decide +kernel
theorem dX10_addPart_154 : decode cX10_addPart 154 = .ok (.bipush 8, 2) := by decide +kernel
theorem dX10_addPart_156 : decode cX10_addPart 156 = .ok (.iadd, 1) := by decide +kernel
theorem dX10_addPart_157 : decode cX10_addPart 157 = .ok (.iload 5, 2) := by decide +kernel
theorem dX10_addPart_159 : decode cX10_addPart 159 = .ok (.iadd, 1) := by decide +kernel
theorem dX10_addPart_160 : decode cX10_addPart 160 = .ok (.iload_n 3, 1) := by decide +kernel
theorem dX10_addPart_161 : decode cX10_addPart 161 = .ok (.iastore, 1) := by decide +kernel
theorem dX10_addPart_162 : decode cX10_addPart 162 = .ok (.aload_n 0, 1) := by decide +kernel
theorem dX10_addPart_163 : decode cX10_addPart 163 = .ok (.getfield 9, 3) := by decide +kernel
theorem dX10_addPart_166 : decode cX10_addPart 166 = .ok (.aload_n 0, 1) := by decide +kernel
theorem dX10_addPart_167 : decode cX10_addPart 167 = .ok (.iload 4, 2) := by decide +kernel
theorem dX10_addPart_169 : decode cX10_addPart 169 = .ok (.invokevirtual 75, 3) := by decide +kernel
theorem dX10_addPart_172 : decode cX10_addPart 172 = .ok (.iconst 2, 1) := by decide +kernel
theorem dX10_addPart_173 : decode cX10_addPart 173 = .ok (.iadd, 1) := by decide +kernel
theorem dX10_addPart_174 : decode cX10_addPart 174 = .ok (.dup2, 1) := by decide +kernel
theorem dX10_addPart_175 : decode cX10_addPart 175 = .ok (.iaload, 1) := by decide +kernel
theorem dX10_addPart_176 : decode cX10_addPart 176 = .ok (.iconst 1, 1) := by decide +kernel
theorem dX10_addPart_177 : decode cX10_addPart 177 = .ok (.iadd, 1) := by decide +kernel
theorem dX10_addPart_178 : decode cX10_addPart 178 = .ok (.iastore, 1) := by decide +kernel
theorem dX10_addPart_179 : decode cX10_addPart 179 = .ok (.iload 5, 2) := by decide +kernel
theorem dX10_addPart_181 : decode cX10_addPart 181 = .ok (.iconst 1, 1) := by decide +kernel
theorem dX10_addPart_182 : decode cX10_addPart 182 = .ok (.iadd, 1) := by decide +kernel
theorem dX10_addPart_183 : decode cX10_addPart 183 = .ok (.ireturn, 1) := by decide +kernel
theorem dX10_isNoSession_0 : decode cX10_isNoSession 0 = .ok (.aload_n 0, 1) := by decide +kernel
theorem dX10_isNoSession_1 : decode cX10_isNoSession 1 = .ok (.aload_n 0, 1) := by decide +kernel
theorem dX10_isNoSession_2 : decode cX10_isNoSession 2 = .ok (.iload_n 1, 1) := by decide +kernel
theorem dX10_isNoSession_3 : decode cX10_isNoSession 3 = .ok (.invokevirtual 84, 3) := by decide +kernel
theorem dX10_isNoSession_6 : decode cX10_isNoSession 6 = .ok (.ifCond .ge 7, 3) := by decide +kernel
theorem dX10_isNoSession_9 : decode cX10_isNoSession 9 = .ok (.iconst 1, 1) := by decide +kernel
theorem dX10_isNoSession_10 : decode cX10_isNoSession 10 = .ok (.goto 4, 3) := by decide +kernel
theorem dX10_isNoSession_13 : decode cX10_isNoSession 13 = .ok (.iconst 0, 1) := by decide +kernel
theorem dX10_isNoSession_14 : decode cX10_isNoSession 14 = .ok (.iconst 1, 1) := by decide +kernel
theorem dX10_isNoSession_15 : decode cX10_isNoSession 15 = .ok (.invokevirtual 51, 3) := by decide +kernel
theorem dX10_isNoSession_18 : decode cX10_isNoSession 18 = .ok (.ireturn, 1) := by decide +kernel
theorem dX10_clearParts_0 : decode cX10_clearParts 0 = .ok (.aload_n 0, 1) := by decide +kernel
theorem dX10_clearParts_1 : decode cX10_clearParts 1 = .ok (.iload_n 1, 1) := by decide +kernel
theorem dX10_clearParts_2 : decode cX10_clearParts 2 = .ok (.invokevirtual 90, 3) := by decide +kernel
theorem dX10_clearParts_5 : decode cX10_clearParts 5 = .ok (.ifCond .eq 5, 3) := by decide +kernel
theorem dX10_clearParts_8 : decode cX10_clearParts 8 = .ok (.iconst 0, 1) := by decide +kernel
theorem dX10_clearParts_9 : decode cX10_clearParts 9 = .ok (.ireturn, 1) := by decide +kernel
theorem dX10_clearParts_10 : decode cX10_clearParts 10 = .ok (.aload_n 0, 1) := by decide +kernel
theorem dX10_clearParts_11 : decode cX10_clearParts 11 = .ok (.invokevirtual 55, 3) := by decide +kernel
theorem dX10_clearParts_14 : decode cX10_clearParts 14 = .ok (.aload_n 0, 1) := by decide +kernel
theorem dX10_clearParts_15 : decode cX10_clearParts 15 = .ok (.getfield 9, 3) := by decide +kernel
theorem dX10_clearParts_18 : decode cX10_clearParts 18 = .ok (.aload_n 0, 1) := by decide +kernel
theorem dX10_clearParts_19 : decode cX10_clearParts 19 = .ok (.aload_n 0, 1) := by decide +kernel
theorem dX10_clearParts_20 : decode cX10_clearParts 20 = .ok (.iload_n 1, 1) := by decide +kernel
theorem dX10_clearParts_21 : decode cX10_clearParts 21 = .ok (.invokevirtual 84, 3) := by decide +kernel
theorem dX10_clearParts_24 : decode cX10_clearParts 24 = .ok (.invokevirtual 75, 3) := by decide +kernel
theorem dX10_clearParts_27 : decode cX10_clearParts 27 = .ok (.iconst 2, 1) := by decide +kernel
theorem dX10_clearParts_28 : decode cX10_clearParts 28 = .ok (.iadd, 1) := by decide +kernel
theorem dX10_clearParts_29 : decode cX10_clearParts 29 = .ok (.iaload, 1) := by decide +kernel
theorem dX10_clearParts_30 : decode cX10_clearParts 30 = .ok (.istore_n 2, 1) := by decide +kernel
theorem dX10_clearParts_31 : decode cX10_clearParts 31 = .ok (.aload_n 0, 1) := by decide +kernel
theorem dX10_clearParts_32 : decode cX10_clearParts 32 = .ok (.getfield 9, 3) := by decide +kernel
theorem dX10_clearParts_35 : decode cX10_clearParts 35 = .ok (.aload_n 0, 1) := by decide +kernel
theorem dX10_clearParts_36 : decode cX10_clearParts 36 = .ok (.aload_n 0, 1) := by decide +kernel
theorem dX10_clearParts_37 : decode cX10_clearParts 37 = .ok (.iload_n 1, 1) := by decide +kernel
theorem dX10_clearParts_38 : decode cX10_clearParts 38 = .ok (.invokevirtual 84, 3) := by decide +kernel
theorem dX10_clearParts_41 : decode cX10_clearParts 41 = .ok (.invokevirtual 75, 3) := by decide +kernel
theorem dX10_clearParts_44 : decode cX10_clearParts 44 = .ok (.iconst 2, 1) := by decide +kernel
theorem dX10_clearParts_45 : decode cX10_clearParts 45 = .ok (.iadd, 1) := by decide +kernel
theorem dX10_clearParts_46 : decode cX10_clearParts 46 = .ok (.iconst 0, 1) := by decide +kernel
theorem dX10_clearParts_47 : decode cX10_clearParts 47 = .ok (.iastore, 1) := by decide +kernel
theorem dX10_clearParts_48 : decode cX10_clearParts 48 = .ok (.iload_n 2, 1) := by decide +kernel
theorem dX10_clearParts_49 : decode cX10_clearParts 49 = .ok (.ireturn, 1) := by decide +kernel
theorem dX10_moveSession_0 : decode cX10_moveSession 0 = .ok (.aload_n 0, 1) := by decide +kernel
theorem dX10_moveSession_1 : decode cX10_moveSession 1 = .ok (.iload_n 1, 1) := by decide +kernel
theorem dX10_moveSession_2 : decode cX10_moveSession 2 = .ok (.invokevirtual 90, 3) := by decide +kernel
