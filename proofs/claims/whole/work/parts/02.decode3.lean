theorem dX4_setEager_0 : decode cX4_setEager 0 = .ok (.iload_n 1, 1) := by decide +kernel
theorem dX4_setEager_1 : decode cX4_setEager 1 = .ok (.iconst 0, 1) := by decide +kernel
theorem dX4_setEager_2 : decode cX4_setEager 2 = .ok (.iconst 1, 1) := by decide +kernel
theorem dX4_setEager_3 : decode cX4_setEager 3 = .ok (.invokestatic 42, 3) := by decide +kernel
theorem dX4_setEager_6 : decode cX4_setEager 6 = .ok (.ifCond .ne 11, 3) := by decide +kernel
theorem dX4_setEager_9 : decode cX4_setEager 9 = .ok (.aload_n 0, 1) := by decide +kernel
theorem dX4_setEager_10 : decode cX4_setEager 10 = .ok (.sipush (-10002), 3) := by decide +kernel
theorem dX4_setEager_13 : decode cX4_setEager 13 = .ok (.invokevirtual 118, 3) := by decide +kernel
theorem dX4_setEager_16 : decode cX4_setEager 16 = .ok (.ireturn, 1) := by decide +kernel
theorem dX4_setEager_17 : decode cX4_setEager 17 = .ok (.aload_n 0, 1) := by decide +kernel
theorem dX4_setEager_18 : decode cX4_setEager 18 = .ok (.invokevirtual 112, 3) := by decide +kernel
theorem dX4_setEager_21 : decode cX4_setEager 21 = .ok (.aload_n 0, 1) := by decide +kernel
theorem dX4_setEager_22 : decode cX4_setEager 22 = .ok (.getfield 7, 3) := by decide +kernel
theorem dX4_setEager_25 : decode cX4_setEager 25 = .ok (.iconst 1, 1) := by decide +kernel
theorem dX4_setEager_26 : decode cX4_setEager 26 = .ok (.iaload, 1) := by decide +kernel
theorem dX4_setEager_27 : decode cX4_setEager 27 = .ok (.istore_n 2, 1) := by decide +kernel
theorem dX4_setEager_28 : decode cX4_setEager 28 = .ok (.aload_n 0, 1) := by decide +kernel
theorem dX4_setEager_29 : decode cX4_setEager 29 = .ok (.getfield 7, 3) := by decide +kernel
theorem dX4_setEager_32 : decode cX4_setEager 32 = .ok (.iconst 1, 1) := by decide +kernel
theorem dX4_setEager_33 : decode cX4_setEager 33 = .ok (.iload_n 1, 1) := by decide +kernel
theorem dX4_setEager_34 : decode cX4_setEager 34 = .ok (.iastore, 1) := by decide +kernel
theorem dX4_setEager_35 : decode cX4_setEager 35 = .ok (.aload_n 0, 1) := by decide +kernel
theorem dX4_setEager_36 : decode cX4_setEager 36 = .ok (.invokevirtual 129, 3) := by decide +kernel
theorem dX4_setEager_39 : decode cX4_setEager 39 = .ok (.iload_n 2, 1) := by decide +kernel
theorem dX4_setEager_40 : decode cX4_setEager 40 = .ok (.ireturn, 1) := by decide +kernel
theorem dX4_cellCount_0 : decode cX4_cellCount 0 = .ok (.aload_n 0, 1) := by decide +kernel
theorem dX4_cellCount_1 : decode cX4_cellCount 1 = .ok (.getfield 7, 3) := by decide +kernel
theorem dX4_cellCount_4 : decode cX4_cellCount 4 = .ok (.iconst 0, 1) := by decide +kernel
theorem dX4_cellCount_5 : decode cX4_cellCount 5 = .ok (.iaload, 1) := by decide +kernel
theorem dX4_cellCount_6 : decode cX4_cellCount 6 = .ok (.ireturn, 1) := by decide +kernel
theorem dX4_ofCell_0 : decode cX4_ofCell 0 = .ok (.aload_n 0, 1) := by decide +kernel
theorem dX4_ofCell_1 : decode cX4_ofCell 1 = .ok (.iload_n 1, 1) := by decide +kernel
theorem dX4_ofCell_2 : decode cX4_ofCell 2 = .ok (.invokevirtual 115, 3) := by decide +kernel
theorem dX4_ofCell_5 : decode cX4_ofCell 5 = .ok (.ifCond .eq 12, 3) := by decide +kernel
theorem dX4_ofCell_8 : decode cX4_ofCell 8 = .ok (.aload_n 0, 1) := by decide +kernel
theorem dX4_ofCell_9 : decode cX4_ofCell 9 = .ok (.iload_n 1, 1) := by decide +kernel
theorem dX4_ofCell_10 : decode cX4_ofCell 10 = .ok (.iload_n 2, 1) := by decide +kernel
theorem dX4_ofCell_11 : decode cX4_ofCell 11 = .ok (.invokevirtual 50, 3) := by decide +kernel
theorem dX4_ofCell_14 : decode cX4_ofCell 14 = .ok (.goto 10, 3) := by decide +kernel
theorem dX4_ofCell_17 : decode cX4_ofCell 17 = .ok (.aload_n 0, 1) := by decide +kernel
theorem dX4_ofCell_18 : decode cX4_ofCell 18 = .ok (.sipush (-10002), 3) := by decide +kernel
theorem dX4_ofCell_21 : decode cX4_ofCell 21 = .ok (.invokevirtual 118, 3) := by decide +kernel
theorem dX4_ofCell_24 : decode cX4_ofCell 24 = .ok (.ireturn, 1) := by decide +kernel
theorem dX4_variable_0 : decode cX4_variable 0 = .ok (.aload_n 0, 1) := by decide +kernel
theorem dX4_variable_1 : decode cX4_variable 1 = .ok (.iload_n 1, 1) := by decide +kernel
theorem dX4_variable_2 : decode cX4_variable 2 = .ok (.iconst 0, 1) := by decide +kernel
theorem dX4_variable_3 : decode cX4_variable 3 = .ok (.invokevirtual 136, 3) := by decide +kernel
theorem dX4_variable_6 : decode cX4_variable 6 = .ok (.ireturn, 1) := by decide +kernel
theorem dX4_statusOf_0 : decode cX4_statusOf 0 = .ok (.aload_n 0, 1) := by decide +kernel
theorem dX4_statusOf_1 : decode cX4_statusOf 1 = .ok (.getfield 22, 3) := by decide +kernel
theorem dX4_statusOf_4 : decode cX4_statusOf 4 = .ok (.iload_n 1, 1) := by decide +kernel
theorem dX4_statusOf_5 : decode cX4_statusOf 5 = .ok (.iaload, 1) := by decide +kernel
theorem dX4_statusOf_6 : decode cX4_statusOf 6 = .ok (.ifCond .eq 10, 3) := by decide +kernel
theorem dX4_statusOf_9 : decode cX4_statusOf 9 = .ok (.aload_n 0, 1) := by decide +kernel
theorem dX4_statusOf_10 : decode cX4_statusOf 10 = .ok (.getfield 22, 3) := by decide +kernel
theorem dX4_statusOf_13 : decode cX4_statusOf 13 = .ok (.iload_n 1, 1) := by decide +kernel
theorem dX4_statusOf_14 : decode cX4_statusOf 14 = .ok (.iaload, 1) := by decide +kernel
theorem dX4_statusOf_15 : decode cX4_statusOf 15 = .ok (.ireturn, 1) := by decide +kernel
theorem dX4_statusOf_16 : decode cX4_statusOf 16 = .ok (.aload_n 0, 1) := by decide +kernel
theorem dX4_statusOf_17 : decode cX4_statusOf 17 = .ok (.getfield 31, 3) := by decide +kernel
theorem dX4_statusOf_20 : decode cX4_statusOf 20 = .ok (.iload_n 1, 1) := by decide +kernel
theorem dX4_statusOf_21 : decode cX4_statusOf 21 = .ok (.baload, 1) := by decide +kernel
theorem dX4_statusOf_22 : decode cX4_statusOf 22 = .ok (.ifCond .ne 7, 3) := by decide +kernel
theorem dX4_statusOf_25 : decode cX4_statusOf 25 = .ok (.iconst 1, 1) := by decide +kernel
theorem dX4_statusOf_26 : decode cX4_statusOf 26 = .ok (.goto 29, 3) := by decide +kernel
theorem dX4_statusOf_29 : decode cX4_statusOf 29 = .ok (.aload_n 0, 1) := by decide +kernel
theorem dX4_statusOf_30 : decode cX4_statusOf 30 = .ok (.iload_n 1, 1) := by decide +kernel
theorem dX4_statusOf_31 : decode cX4_statusOf 31 = .ok (.iconst 4, 1) := by decide +kernel
theorem dX4_statusOf_32 : decode cX4_statusOf 32 = .ok (.invokevirtual 50, 3) := by decide +kernel
theorem dX4_statusOf_35 : decode cX4_statusOf 35 = .ok (.sipush 9999, 3) := by decide +kernel
theorem dX4_statusOf_38 : decode cX4_statusOf 38 = .ok (.if_icmp .le 16, 3) := by decide +kernel
theorem dX4_statusOf_41 : decode cX4_statusOf 41 = .ok (.aload_n 0, 1) := by decide +kernel
theorem dX4_statusOf_42 : decode cX4_statusOf 42 = .ok (.iload_n 1, 1) := by decide +kernel
theorem dX4_statusOf_43 : decode cX4_statusOf 43 = .ok (.iconst 4, 1) := by decide +kernel
theorem dX4_statusOf_44 : decode cX4_statusOf 44 = .ok (.invokevirtual 50, 3) := by decide +kernel
theorem dX4_statusOf_47 : decode cX4_statusOf 47 = .ok (.sipush 20000, 3) := by decide +kernel
theorem dX4_statusOf_50 : decode cX4_statusOf 50 = .ok (.isub, 1) := by decide +kernel
theorem dX4_statusOf_51 : decode cX4_statusOf 51 = .ok (.goto 4, 3) := by decide +kernel
theorem dX4_statusOf_54 : decode cX4_statusOf 54 = .ok (.iconst 0, 1) := by decide +kernel
theorem dX4_statusOf_55 : decode cX4_statusOf 55 = .ok (.ireturn, 1) := by decide +kernel
theorem dX4_status_0 : decode cX4_status 0 = .ok (.aload_n 0, 1) := by decide +kernel
theorem dX4_status_1 : decode cX4_status 1 = .ok (.iload_n 1, 1) := by decide +kernel
theorem dX4_status_2 : decode cX4_status 2 = .ok (.invokevirtual 115, 3) := by decide +kernel
theorem dX4_status_5 : decode cX4_status 5 = .ok (.ifCond .ne 11, 3) := by decide +kernel
theorem dX4_status_8 : decode cX4_status 8 = .ok (.aload_n 0, 1) := by decide +kernel
theorem dX4_status_9 : decode cX4_status 9 = .ok (.sipush (-10002), 3) := by decide +kernel
theorem dX4_status_12 : decode cX4_status 12 = .ok (.invokevirtual 118, 3) := by decide +kernel
theorem dX4_status_15 : decode cX4_status 15 = .ok (.ireturn, 1) := by decide +kernel
theorem dX4_status_16 : decode cX4_status 16 = .ok (.aload_n 0, 1) := by decide +kernel
theorem dX4_status_17 : decode cX4_status 17 = .ok (.invokevirtual 102, 3) := by decide +kernel
theorem dX4_status_20 : decode cX4_status 20 = .ok (.aload_n 0, 1) := by decide +kernel
theorem dX4_status_21 : decode cX4_status 21 = .ok (.iload_n 1, 1) := by decide +kernel
theorem dX4_status_22 : decode cX4_status 22 = .ok (.invokevirtual 139, 3) := by decide +kernel
theorem dX4_status_25 : decode cX4_status 25 = .ok (.ireturn, 1) := by decide +kernel
theorem dX4_valueAt_0 : decode cX4_valueAt 0 = .ok (.aload_n 0, 1) := by decide +kernel
theorem dX4_valueAt_1 : decode cX4_valueAt 1 = .ok (.iload_n 1, 1) := by decide +kernel
theorem dX4_valueAt_2 : decode cX4_valueAt 2 = .ok (.invokevirtual 139, 3) := by decide +kernel
theorem dX4_valueAt_5 : decode cX4_valueAt 5 = .ok (.ifCond .ne 12, 3) := by decide +kernel
theorem dX4_valueAt_8 : decode cX4_valueAt 8 = .ok (.aload_n 0, 1) := by decide +kernel
theorem dX4_valueAt_9 : decode cX4_valueAt 9 = .ok (.iload_n 1, 1) := by decide +kernel
theorem dX4_valueAt_10 : decode cX4_valueAt 10 = .ok (.iconst 4, 1) := by decide +kernel
theorem dX4_valueAt_11 : decode cX4_valueAt 11 = .ok (.invokevirtual 50, 3) := by decide +kernel
theorem dX4_valueAt_14 : decode cX4_valueAt 14 = .ok (.goto 6, 3) := by decide +kernel
theorem dX4_valueAt_17 : decode cX4_valueAt 17 = .ok (.sipush (-10001), 3) := by decide +kernel
theorem dX4_valueAt_20 : decode cX4_valueAt 20 = .ok (.ireturn, 1) := by decide +kernel
theorem dX4_value_0 : decode cX4_value 0 = .ok (.aload_n 0, 1) := by decide +kernel
theorem dX4_value_1 : decode cX4_value 1 = .ok (.iload_n 1, 1) := by decide +kernel
theorem dX4_value_2 : decode cX4_value 2 = .ok (.invokevirtual 115, 3) := by decide +kernel
theorem dX4_value_5 : decode cX4_value 5 = .ok (.ifCond .ne 11, 3) := by decide +kernel
theorem dX4_value_8 : decode cX4_value 8 = .ok (.aload_n 0, 1) := by decide +kernel
theorem dX4_value_9 : decode cX4_value 9 = .ok (.sipush (-10002), 3) := by decide +kernel
theorem dX4_value_12 : decode cX4_value 12 = .ok (.invokevirtual 118, 3) := by decide +kernel
theorem dX4_value_15 : decode cX4_value 15 = .ok (.ireturn, 1) := by decide +kernel
theorem dX4_value_16 : decode cX4_value 16 = .ok (.aload_n 0, 1) := by decide +kernel
theorem dX4_value_17 : decode cX4_value 17 = .ok (.invokevirtual 102, 3) := by decide +kernel
theorem dX4_value_20 : decode cX4_value 20 = .ok (.aload_n 0, 1) := by decide +kernel
theorem dX4_value_21 : decode cX4_value 21 = .ok (.iload_n 1, 1) := by decide +kernel
theorem dX4_value_22 : decode cX4_value 22 = .ok (.invokevirtual 142, 3) := by decide +kernel
theorem dX4_value_25 : decode cX4_value 25 = .ok (.ireturn, 1) := by decide +kernel
theorem dX4_valueOf_0 : decode cX4_valueOf 0 = .ok (.iload_n 1, 1) := by decide +kernel
theorem dX4_valueOf_1 : decode cX4_valueOf 1 = .ok (.iconst 0, 1) := by decide +kernel
theorem dX4_valueOf_2 : decode cX4_valueOf 2 = .ok (.bipush 9, 2) := by decide +kernel
theorem dX4_valueOf_4 : decode cX4_valueOf 4 = .ok (.invokestatic 42, 3) := by decide +kernel
theorem dX4_valueOf_7 : decode cX4_valueOf 7 = .ok (.ifCond .ne 11, 3) := by decide +kernel
theorem dX4_valueOf_10 : decode cX4_valueOf 10 = .ok (.aload_n 0, 1) := by decide +kernel
theorem dX4_valueOf_11 : decode cX4_valueOf 11 = .ok (.sipush (-10002), 3) := by decide +kernel
theorem dX4_valueOf_14 : decode cX4_valueOf 14 = .ok (.invokevirtual 118, 3) := by decide +kernel
theorem dX4_valueOf_17 : decode cX4_valueOf 17 = .ok (.ireturn, 1) := by decide +kernel
theorem dX4_valueOf_18 : decode cX4_valueOf 18 = .ok (.aload_n 0, 1) := by decide +kernel
theorem dX4_valueOf_19 : decode cX4_valueOf 19 = .ok (.invokevirtual 102, 3) := by decide +kernel
theorem dX4_valueOf_22 : decode cX4_valueOf 22 = .ok (.aload_n 0, 1) := by decide +kernel
theorem dX4_valueOf_23 : decode cX4_valueOf 23 = .ok (.iload_n 1, 1) := by decide +kernel
theorem dX4_valueOf_24 : decode cX4_valueOf 24 = .ok (.invokevirtual 53, 3) := by decide +kernel
theorem dX4_valueOf_27 : decode cX4_valueOf 27 = .ok (.invokestatic 57, 3) := by decide +kernel
theorem dX4_valueOf_30 : decode cX4_valueOf 30 = .ok (.istore_n 2, 1) := by decide +kernel
theorem dX4_valueOf_31 : decode cX4_valueOf 31 = .ok (.iload_n 2, 1) := by decide +kernel
theorem dX4_valueOf_32 : decode cX4_valueOf 32 = .ok (.sipush (-10001), 3) := by decide +kernel
theorem dX4_valueOf_35 : decode cX4_valueOf 35 = .ok (.if_icmp .ne 9, 3) := by decide +kernel
theorem dX4_valueOf_38 : decode cX4_valueOf 38 = .ok (.sipush (-10001), 3) := by decide +kernel
theorem dX4_valueOf_41 : decode cX4_valueOf 41 = .ok (.goto 8, 3) := by decide +kernel
theorem dX4_valueOf_44 : decode cX4_valueOf 44 = .ok (.aload_n 0, 1) := by decide +kernel
theorem dX4_valueOf_45 : decode cX4_valueOf 45 = .ok (.iload_n 2, 1) := by decide +kernel
theorem dX4_valueOf_46 : decode cX4_valueOf 46 = .ok (.invokevirtual 142, 3) := by decide +kernel
theorem dX4_valueOf_49 : decode cX4_valueOf 49 = .ok (.ireturn, 1) := by decide +kernel
theorem dX4_version_0 : decode cX4_version 0 = .ok (.aload_n 0, 1) := by decide +kernel
theorem dX4_version_1 : decode cX4_version 1 = .ok (.iload_n 1, 1) := by decide +kernel
theorem dX4_version_2 : decode cX4_version 2 = .ok (.iconst 5, 1) := by decide +kernel
theorem dX4_version_3 : decode cX4_version 3 = .ok (.invokevirtual 136, 3) := by decide +kernel
theorem dX4_version_6 : decode cX4_version 6 = .ok (.ireturn, 1) := by decide +kernel
theorem dX4_runs_0 : decode cX4_runs 0 = .ok (.aload_n 0, 1) := by decide +kernel
theorem dX4_runs_1 : decode cX4_runs 1 = .ok (.iload_n 1, 1) := by decide +kernel
theorem dX4_runs_2 : decode cX4_runs 2 = .ok (.bipush 8, 2) := by decide +kernel
theorem dX4_runs_4 : decode cX4_runs 4 = .ok (.invokevirtual 136, 3) := by decide +kernel
theorem dX4_runs_7 : decode cX4_runs 7 = .ok (.ireturn, 1) := by decide +kernel
theorem dX4_totalRuns_0 : decode cX4_totalRuns 0 = .ok (.aload_n 0, 1) := by decide +kernel
theorem dX4_totalRuns_1 : decode cX4_totalRuns 1 = .ok (.getfield 7, 3) := by decide +kernel
theorem dX4_totalRuns_4 : decode cX4_totalRuns 4 = .ok (.iconst 3, 1) := by decide +kernel
theorem dX4_totalRuns_5 : decode cX4_totalRuns 5 = .ok (.iaload, 1) := by decide +kernel
theorem dX4_totalRuns_6 : decode cX4_totalRuns 6 = .ok (.ireturn, 1) := by decide +kernel
theorem dX4_dependencies_0 : decode cX4_dependencies 0 = .ok (.aload_n 0, 1) := by decide +kernel
theorem dX4_dependencies_1 : decode cX4_dependencies 1 = .ok (.iload_n 1, 1) := by decide +kernel
theorem dX4_dependencies_2 : decode cX4_dependencies 2 = .ok (.invokevirtual 115, 3) := by decide +kernel
theorem dX4_dependencies_5 : decode cX4_dependencies 5 = .ok (.ifCond .ne 11, 3) := by decide +kernel
theorem dX4_dependencies_8 : decode cX4_dependencies 8 = .ok (.aload_n 0, 1) := by decide +kernel
theorem dX4_dependencies_9 : decode cX4_dependencies 9 = .ok (.sipush (-10002), 3) := by decide +kernel
theorem dX4_dependencies_12 : decode cX4_dependencies 12 = .ok (.invokevirtual 118, 3) := by decide +kernel
theorem dX4_dependencies_15 : decode cX4_dependencies 15 = .ok (.ireturn, 1) := by decide +kernel
theorem dX4_dependencies_16 : decode cX4_dependencies 16 = .ok (.aload_n 0, 1) := by decide +kernel
theorem dX4_dependencies_17 : decode cX4_dependencies 17 = .ok (.invokevirtual 102, 3) := by decide +kernel
theorem dX4_dependencies_20 : decode cX4_dependencies 20 = .ok (.aload_n 0, 1) := by decide +kernel
theorem dX4_dependencies_21 : decode cX4_dependencies 21 = .ok (.getfield 19, 3) := by decide +kernel
theorem dX4_dependencies_24 : decode cX4_dependencies 24 = .ok (.iload_n 1, 1) := by decide +kernel
theorem dX4_dependencies_25 : decode cX4_dependencies 25 = .ok (.iaload, 1) := by decide +kernel
theorem dX4_dependencies_26 : decode cX4_dependencies 26 = .ok (.ireturn, 1) := by decide +kernel
theorem dX4_dependentsOf_0 : decode cX4_dependentsOf 0 = .ok (.iconst 0, 1) := by decide +kernel
theorem dX4_dependentsOf_1 : decode cX4_dependentsOf 1 = .ok (.istore_n 2, 1) := by decide +kernel
theorem dX4_dependentsOf_2 : decode cX4_dependentsOf 2 = .ok (.iconst 0, 1) := by decide +kernel
theorem dX4_dependentsOf_3 : decode cX4_dependentsOf 3 = .ok (.istore_n 3, 1) := by decide +kernel
theorem dX4_dependentsOf_4 : decode cX4_dependentsOf 4 = .ok (.iload_n 3, 1) := by decide +kernel
theorem dX4_dependentsOf_5 : decode cX4_dependentsOf 5 = .ok (.aload_n 0, 1) := by decide +kernel
theorem dX4_dependentsOf_6 : decode cX4_dependentsOf 6 = .ok (.getfield 7, 3) := by decide +kernel
theorem dX4_dependentsOf_9 : decode cX4_dependentsOf 9 = .ok (.iconst 0, 1) := by decide +kernel
theorem dX4_dependentsOf_10 : decode cX4_dependentsOf 10 = .ok (.iaload, 1) := by decide +kernel
theorem dX4_dependentsOf_11 : decode cX4_dependentsOf 11 = .ok (.if_icmp .ge 24, 3) := by decide +kernel
theorem dX4_dependentsOf_14 : decode cX4_dependentsOf 14 = .ok (.iload_n 2, 1) := by decide +kernel
theorem dX4_dependentsOf_15 : decode cX4_dependentsOf 15 = .ok (.aload_n 0, 1) := by decide +kernel
theorem dX4_dependentsOf_16 : decode cX4_dependentsOf 16 = .ok (.getfield 25, 3) := by decide +kernel
theorem dX4_dependentsOf_19 : decode cX4_dependentsOf 19 = .ok (.iload_n 3, 1) := by decide +kernel
theorem dX4_dependentsOf_20 : decode cX4_dependentsOf 20 = .ok (.iaload, 1) := by decide +kernel
theorem dX4_dependentsOf_21 : decode cX4_dependentsOf 21 = .ok (.iload_n 1, 1) := by decide +kernel
theorem dX4_dependentsOf_22 : decode cX4_dependentsOf 22 = .ok (.ishr, 1) := by decide +kernel
theorem dX4_dependentsOf_23 : decode cX4_dependentsOf 23 = .ok (.iconst 1, 1) := by decide +kernel
theorem dX4_dependentsOf_24 : decode cX4_dependentsOf 24 = .ok (.iand, 1) := by decide +kernel
theorem dX4_dependentsOf_25 : decode cX4_dependentsOf 25 = .ok (.iload_n 3, 1) := by decide +kernel
theorem dX4_dependentsOf_26 : decode cX4_dependentsOf 26 = .ok (.ishl, 1) := by decide +kernel
theorem dX4_dependentsOf_27 : decode cX4_dependentsOf 27 = .ok (.ior, 1) := by decide +kernel
theorem dX4_dependentsOf_28 : decode cX4_dependentsOf 28 = .ok (.istore_n 2, 1) := by decide +kernel
theorem dX4_dependentsOf_29 : decode cX4_dependentsOf 29 = .ok (.iinc 3 1, 3) := by decide +kernel
theorem dX4_dependentsOf_32 : decode cX4_dependentsOf 32 = .ok (.goto (-28), 3) := by decide +kernel
theorem dX4_dependentsOf_35 : decode cX4_dependentsOf 35 = .ok (.iload_n 2, 1) := by decide +kernel
theorem dX4_dependentsOf_36 : decode cX4_dependentsOf 36 = .ok (.ireturn, 1) := by decide +kernel
theorem dX4_dependents_0 : decode cX4_dependents 0 = .ok (.aload_n 0, 1) := by decide +kernel
theorem dX4_dependents_1 : decode cX4_dependents 1 = .ok (.iload_n 1, 1) := by decide +kernel
theorem dX4_dependents_2 : decode cX4_dependents 2 = .ok (.invokevirtual 115, 3) := by decide +kernel
theorem dX4_dependents_5 : decode cX4_dependents 5 = .ok (.ifCond .ne 11, 3) := by decide +kernel
theorem dX4_dependents_8 : decode cX4_dependents 8 = .ok (.aload_n 0, 1) := by decide +kernel
theorem dX4_dependents_9 : decode cX4_dependents 9 = .ok (.sipush (-10002), 3) := by decide +kernel
theorem dX4_dependents_12 : decode cX4_dependents 12 = .ok (.invokevirtual 118, 3) := by decide +kernel
theorem dX4_dependents_15 : decode cX4_dependents 15 = .ok (.ireturn, 1) := by decide +kernel
theorem dX4_dependents_16 : decode cX4_dependents 16 = .ok (.aload_n 0, 1) := by decide +kernel
theorem dX4_dependents_17 : decode cX4_dependents 17 = .ok (.invokevirtual 102, 3) := by decide +kernel
theorem dX4_dependents_20 : decode cX4_dependents 20 = .ok (.aload_n 0, 1) := by decide +kernel
theorem dX4_dependents_21 : decode cX4_dependents 21 = .ok (.iload_n 1, 1) := by decide +kernel
theorem dX4_dependents_22 : decode cX4_dependents 22 = .ok (.invokevirtual 145, 3) := by decide +kernel
theorem dX4_dependents_25 : decode cX4_dependents 25 = .ok (.ireturn, 1) := by decide +kernel
theorem dX4_definers_0 : decode cX4_definers 0 = .ok (.iload_n 1, 1) := by decide +kernel
theorem dX4_definers_1 : decode cX4_definers 1 = .ok (.iconst 0, 1) := by decide +kernel
theorem dX4_definers_2 : decode cX4_definers 2 = .ok (.bipush 9, 2) := by decide +kernel
theorem dX4_definers_4 : decode cX4_definers 4 = .ok (.invokestatic 42, 3) := by decide +kernel
theorem dX4_definers_7 : decode cX4_definers 7 = .ok (.ifCond .eq 11, 3) := by decide +kernel
theorem dX4_definers_10 : decode cX4_definers 10 = .ok (.aload_n 0, 1) := by decide +kernel
theorem dX4_definers_11 : decode cX4_definers 11 = .ok (.iload_n 1, 1) := by decide +kernel
theorem dX4_definers_12 : decode cX4_definers 12 = .ok (.invokevirtual 53, 3) := by decide +kernel
theorem dX4_definers_15 : decode cX4_definers 15 = .ok (.goto 10, 3) := by decide +kernel
theorem dX4_definers_18 : decode cX4_definers 18 = .ok (.aload_n 0, 1) := by decide +kernel
theorem dX4_definers_19 : decode cX4_definers 19 = .ok (.sipush (-10002), 3) := by decide +kernel
theorem dX4_definers_22 : decode cX4_definers 22 = .ok (.invokevirtual 118, 3) := by decide +kernel
theorem dX4_definers_25 : decode cX4_definers 25 = .ok (.ireturn, 1) := by decide +kernel
theorem dX4_runnableCount_0 : decode cX4_runnableCount 0 = .ok (.aload_n 0, 1) := by decide +kernel
theorem dX4_runnableCount_1 : decode cX4_runnableCount 1 = .ok (.invokevirtual 102, 3) := by decide +kernel
theorem dX4_runnableCount_4 : decode cX4_runnableCount 4 = .ok (.aload_n 0, 1) := by decide +kernel
theorem dX4_runnableCount_5 : decode cX4_runnableCount 5 = .ok (.getfield 70, 3) := by decide +kernel
theorem dX4_runnableCount_8 : decode cX4_runnableCount 8 = .ok (.ireturn, 1) := by decide +kernel
theorem dX4_runOrder_0 : decode cX4_runOrder 0 = .ok (.iload_n 1, 1) := by decide +kernel
theorem dX4_runOrder_1 : decode cX4_runOrder 1 = .ok (.ifCond .ge 11, 3) := by decide +kernel
theorem dX4_runOrder_4 : decode cX4_runOrder 4 = .ok (.aload_n 0, 1) := by decide +kernel
theorem dX4_runOrder_5 : decode cX4_runOrder 5 = .ok (.sipush (-10002), 3) := by decide +kernel
theorem dX4_runOrder_8 : decode cX4_runOrder 8 = .ok (.invokevirtual 118, 3) := by decide +kernel
theorem dX4_runOrder_11 : decode cX4_runOrder 11 = .ok (.ireturn, 1) := by decide +kernel
theorem dX4_runOrder_12 : decode cX4_runOrder 12 = .ok (.aload_n 0, 1) := by decide +kernel
theorem dX4_runOrder_13 : decode cX4_runOrder 13 = .ok (.invokevirtual 102, 3) := by decide +kernel
theorem dX4_runOrder_16 : decode cX4_runOrder 16 = .ok (.iload_n 1, 1) := by decide +kernel
theorem dX4_runOrder_17 : decode cX4_runOrder 17 = .ok (.aload_n 0, 1) := by decide +kernel
theorem dX4_runOrder_18 : decode cX4_runOrder 18 = .ok (.getfield 70, 3) := by decide +kernel
theorem dX4_runOrder_21 : decode cX4_runOrder 21 = .ok (.if_icmp .ge 12, 3) := by decide +kernel
theorem dX4_runOrder_24 : decode cX4_runOrder 24 = .ok (.aload_n 0, 1) := by decide +kernel
theorem dX4_runOrder_25 : decode cX4_runOrder 25 = .ok (.getfield 28, 3) := by decide +kernel
theorem dX4_runOrder_28 : decode cX4_runOrder 28 = .ok (.iload_n 1, 1) := by decide +kernel
theorem dX4_runOrder_29 : decode cX4_runOrder 29 = .ok (.iaload, 1) := by decide +kernel
theorem dX4_runOrder_30 : decode cX4_runOrder 30 = .ok (.goto 6, 3) := by decide +kernel
theorem dX4_runOrder_33 : decode cX4_runOrder 33 = .ok (.sipush (-10001), 3) := by decide +kernel
theorem dX4_runOrder_36 : decode cX4_runOrder 36 = .ok (.ireturn, 1) := by decide +kernel
theorem dX4_staleCount_0 : decode cX4_staleCount 0 = .ok (.aload_n 0, 1) := by decide +kernel
theorem dX4_staleCount_1 : decode cX4_staleCount 1 = .ok (.invokevirtual 102, 3) := by decide +kernel
theorem dX4_staleCount_4 : decode cX4_staleCount 4 = .ok (.iconst 0, 1) := by decide +kernel
theorem dX4_staleCount_5 : decode cX4_staleCount 5 = .ok (.istore_n 1, 1) := by decide +kernel
theorem dX4_staleCount_6 : decode cX4_staleCount 6 = .ok (.iconst 0, 1) := by decide +kernel
theorem dX4_staleCount_7 : decode cX4_staleCount 7 = .ok (.istore_n 2, 1) := by decide +kernel
theorem dX4_staleCount_8 : decode cX4_staleCount 8 = .ok (.iload_n 2, 1) := by decide +kernel
theorem dX4_staleCount_9 : decode cX4_staleCount 9 = .ok (.aload_n 0, 1) := by decide +kernel
theorem dX4_staleCount_10 : decode cX4_staleCount 10 = .ok (.getfield 70, 3) := by decide +kernel
theorem dX4_staleCount_13 : decode cX4_staleCount 13 = .ok (.if_icmp .ge 31, 3) := by decide +kernel
theorem dX4_staleCount_16 : decode cX4_staleCount 16 = .ok (.iload_n 1, 1) := by decide +kernel
theorem dX4_staleCount_17 : decode cX4_staleCount 17 = .ok (.aload_n 0, 1) := by decide +kernel
theorem dX4_staleCount_18 : decode cX4_staleCount 18 = .ok (.getfield 31, 3) := by decide +kernel
theorem dX4_staleCount_21 : decode cX4_staleCount 21 = .ok (.aload_n 0, 1) := by decide +kernel
theorem dX4_staleCount_22 : decode cX4_staleCount 22 = .ok (.getfield 28, 3) := by decide +kernel
theorem dX4_staleCount_25 : decode cX4_staleCount 25 = .ok (.iload_n 2, 1) := by decide +kernel
theorem dX4_staleCount_26 : decode cX4_staleCount 26 = .ok (.iaload, 1) := by decide +kernel
theorem dX4_staleCount_27 : decode cX4_staleCount 27 = .ok (.baload, 1) := by decide +kernel
theorem dX4_staleCount_28 : decode cX4_staleCount 28 = .ok (.ifCond .eq 7, 3) := by decide +kernel
theorem dX4_staleCount_31 : decode cX4_staleCount 31 = .ok (.iconst 0, 1) := by decide +kernel
theorem dX4_staleCount_32 : decode cX4_staleCount 32 = .ok (.goto 4, 3) := by decide +kernel
theorem dX4_staleCount_35 : decode cX4_staleCount 35 = .ok (.iconst 1, 1) := by decide +kernel
theorem dX4_staleCount_36 : decode cX4_staleCount 36 = .ok (.iadd, 1) := by decide +kernel
theorem dX4_staleCount_37 : decode cX4_staleCount 37 = .ok (.istore_n 1, 1) := by decide +kernel
theorem dX4_staleCount_38 : decode cX4_staleCount 38 = .ok (.iinc 2 1, 3) := by decide +kernel
theorem dX4_staleCount_41 : decode cX4_staleCount 41 = .ok (.goto (-33), 3) := by decide +kernel
theorem dX4_staleCount_44 : decode cX4_staleCount 44 = .ok (.iload_n 1, 1) := by decide +kernel
theorem dX4_staleCount_45 : decode cX4_staleCount 45 = .ok (.ireturn, 1) := by decide +kernel
theorem dX4_undo_0 : decode cX4_undo 0 = .ok (.aload_n 0, 1) := by decide +kernel
theorem dX4_undo_1 : decode cX4_undo 1 = .ok (.getfield 46, 3) := by decide +kernel
theorem dX4_undo_4 : decode cX4_undo 4 = .ok (.ifCond .ne 11, 3) := by decide +kernel
theorem dX4_undo_7 : decode cX4_undo 7 = .ok (.aload_n 0, 1) := by decide +kernel
theorem dX4_undo_8 : decode cX4_undo 8 = .ok (.sipush (-10003), 3) := by decide +kernel
theorem dX4_undo_11 : decode cX4_undo 11 = .ok (.invokevirtual 118, 3) := by decide +kernel
theorem dX4_undo_14 : decode cX4_undo 14 = .ok (.ireturn, 1) := by decide +kernel
theorem dX4_undo_15 : decode cX4_undo 15 = .ok (.aload_n 0, 1) := by decide +kernel
theorem dX4_undo_16 : decode cX4_undo 16 = .ok (.dup, 1) := by decide +kernel
theorem dX4_undo_17 : decode cX4_undo 17 = .ok (.getfield 46, 3) := by decide +kernel
theorem dX4_undo_20 : decode cX4_undo 20 = .ok (.iconst 1, 1) := by decide +kernel
theorem dX4_undo_21 : decode cX4_undo 21 = .ok (.isub, 1) := by decide +kernel
theorem dX4_undo_22 : decode cX4_undo 22 = .ok (.putfield 46, 3) := by decide +kernel
theorem dX4_undo_25 : decode cX4_undo 25 = .ok (.iconst 0, 1) := by decide +kernel
theorem dX4_undo_26 : decode cX4_undo 26 = .ok (.istore_n 1, 1) := by decide +kernel
theorem dX4_undo_27 : decode cX4_undo 27 = .ok (.iload_n 1, 1) := by decide +kernel
theorem dX4_undo_28 : decode cX4_undo 28 = .ok (.sipush 137, 3) := by decide +kernel
theorem dX4_undo_31 : decode cX4_undo 31 = .ok (.if_icmp .ge 30, 3) := by decide +kernel
theorem dX4_undo_34 : decode cX4_undo 34 = .ok (.aload_n 0, 1) := by decide +kernel
theorem dX4_undo_35 : decode cX4_undo 35 = .ok (.getfield 7, 3) := by decide +kernel
theorem dX4_undo_38 : decode cX4_undo 38 = .ok (.iload_n 1, 1) := by decide +kernel
theorem dX4_undo_39 : decode cX4_undo 39 = .ok (.aload_n 0, 1) := by decide +kernel
theorem dX4_undo_40 : decode cX4_undo 40 = .ok (.getfield 13, 3) := by decide +kernel
theorem dX4_undo_43 : decode cX4_undo 43 = .ok (.sipush 137, 3) := by decide +kernel
theorem dX4_undo_46 : decode cX4_undo 46 = .ok (.aload_n 0, 1) := by decide +kernel
theorem dX4_undo_47 : decode cX4_undo 47 = .ok (.getfield 46, 3) := by decide +kernel
theorem dX4_undo_50 : decode cX4_undo 50 = .ok (.imul, 1) := by decide +kernel
theorem dX4_undo_51 : decode cX4_undo 51 = .ok (.iload_n 1, 1) := by decide +kernel
theorem dX4_undo_52 : decode cX4_undo 52 = .ok (.iadd, 1) := by decide +kernel
theorem dX4_undo_53 : decode cX4_undo 53 = .ok (.iaload, 1) := by decide +kernel
theorem dX4_undo_54 : decode cX4_undo 54 = .ok (.iastore, 1) := by decide +kernel
theorem dX4_undo_55 : decode cX4_undo 55 = .ok (.iinc 1 1, 3) := by decide +kernel
theorem dX4_undo_58 : decode cX4_undo 58 = .ok (.goto (-31), 3) := by decide +kernel
theorem dX4_undo_61 : decode cX4_undo 61 = .ok (.aload_n 0, 1) := by decide +kernel
theorem dX4_undo_62 : decode cX4_undo 62 = .ok (.getfield 46, 3) := by decide +kernel
theorem dX4_undo_65 : decode cX4_undo 65 = .ok (.ireturn, 1) := by decide +kernel
theorem dX4_errorCount_0 : decode cX4_errorCount 0 = .ok (.iload_n 1, 1) := by decide +kernel
theorem dX4_errorCount_1 : decode cX4_errorCount 1 = .ok (.iconst 0, 1) := by decide +kernel
theorem dX4_errorCount_2 : decode cX4_errorCount 2 = .ok (.iconst 2, 1) := by decide +kernel
theorem dX4_errorCount_3 : decode cX4_errorCount 3 = .ok (.invokestatic 42, 3) := by decide +kernel
theorem dX4_errorCount_6 : decode cX4_errorCount 6 = .ok (.ifCond .eq 12, 3) := by decide +kernel
theorem dX4_errorCount_9 : decode cX4_errorCount 9 = .ok (.aload_n 0, 1) := by decide +kernel
theorem dX4_errorCount_10 : decode cX4_errorCount 10 = .ok (.getfield 16, 3) := by decide +kernel
theorem dX4_errorCount_13 : decode cX4_errorCount 13 = .ok (.iload_n 1, 1) := by decide +kernel
theorem dX4_errorCount_14 : decode cX4_errorCount 14 = .ok (.iaload, 1) := by decide +kernel
theorem dX4_errorCount_15 : decode cX4_errorCount 15 = .ok (.goto 10, 3) := by decide +kernel
theorem dX4_errorCount_18 : decode cX4_errorCount 18 = .ok (.aload_n 0, 1) := by decide +kernel
theorem dX4_errorCount_19 : decode cX4_errorCount 19 = .ok (.sipush (-10002), 3) := by decide +kernel
theorem dX4_errorCount_22 : decode cX4_errorCount 22 = .ok (.invokevirtual 118, 3) := by decide +kernel
theorem dX4_errorCount_25 : decode cX4_errorCount 25 = .ok (.ireturn, 1) := by decide +kernel
theorem dX4_mix_0 : decode cX4_mix 0 = .ok (.aload_n 0, 1) := by decide +kernel
theorem dX4_mix_1 : decode cX4_mix 1 = .ok (.ldc2_w 148, 3) := by decide +kernel
theorem dX4_mix_4 : decode cX4_mix 4 = .ok (.aload_n 0, 1) := by decide +kernel
theorem dX4_mix_5 : decode cX4_mix 5 = .ok (.getfield 150, 3) := by decide +kernel
theorem dX4_mix_8 : decode cX4_mix 8 = .ok (.lmul, 1) := by decide +kernel
theorem dX4_mix_9 : decode cX4_mix 9 = .ok (.lload_n 1, 1) := by decide +kernel
theorem dX4_mix_10 : decode cX4_mix 10 = .ok (.ladd, 1) := by decide +kernel
theorem dX4_mix_11 : decode cX4_mix 11 = .ok (.putfield 150, 3) := by decide +kernel
theorem dX4_mix_14 : decode cX4_mix 14 = .ok (.return_, 1) := by decide +kernel
theorem dX4_mixCell_0 : decode cX4_mixCell 0 = .ok (.iconst 0, 1) := by decide +kernel
theorem dX4_mixCell_1 : decode cX4_mixCell 1 = .ok (.istore_n 2, 1) := by decide +kernel
theorem dX4_mixCell_2 : decode cX4_mixCell 2 = .ok (.iload_n 2, 1) := by decide +kernel
theorem dX4_mixCell_3 : decode cX4_mixCell 3 = .ok (.iconst 3, 1) := by decide +kernel
theorem dX4_mixCell_4 : decode cX4_mixCell 4 = .ok (.if_icmp .gt 20, 3) := by decide +kernel
theorem dX4_mixCell_7 : decode cX4_mixCell 7 = .ok (.aload_n 0, 1) := by decide +kernel
theorem dX4_mixCell_8 : decode cX4_mixCell 8 = .ok (.aload_n 0, 1) := by decide +kernel
theorem dX4_mixCell_9 : decode cX4_mixCell 9 = .ok (.iload_n 1, 1) := by decide +kernel
theorem dX4_mixCell_10 : decode cX4_mixCell 10 = .ok (.iload_n 2, 1) := by decide +kernel
theorem dX4_mixCell_11 : decode cX4_mixCell 11 = .ok (.invokevirtual 50, 3) := by decide +kernel
theorem dX4_mixCell_14 : decode cX4_mixCell 14 = .ok (.i2l, 1) := by decide +kernel
theorem dX4_mixCell_15 : decode cX4_mixCell 15 = .ok (.invokevirtual 154, 3) := by decide +kernel
theorem dX4_mixCell_18 : decode cX4_mixCell 18 = .ok (.iinc 2 1, 3) := by decide +kernel
theorem dX4_mixCell_21 : decode cX4_mixCell 21 = .ok (.goto (-19), 3) := by decide +kernel
theorem dX4_mixCell_24 : decode cX4_mixCell 24 = .ok (.aload_n 0, 1) := by decide +kernel
theorem dX4_mixCell_25 : decode cX4_mixCell 25 = .ok (.aload_n 0, 1) := by decide +kernel
theorem dX4_mixCell_26 : decode cX4_mixCell 26 = .ok (.iload_n 1, 1) := by decide +kernel
theorem dX4_mixCell_27 : decode cX4_mixCell 27 = .ok (.invokevirtual 139, 3) := by decide +kernel
theorem dX4_mixCell_30 : decode cX4_mixCell 30 = .ok (.i2l, 1) := by decide +kernel
theorem dX4_mixCell_31 : decode cX4_mixCell 31 = .ok (.invokevirtual 154, 3) := by decide +kernel
theorem dX4_mixCell_34 : decode cX4_mixCell 34 = .ok (.aload_n 0, 1) := by decide +kernel
theorem dX4_mixCell_35 : decode cX4_mixCell 35 = .ok (.aload_n 0, 1) := by decide +kernel
theorem dX4_mixCell_36 : decode cX4_mixCell 36 = .ok (.iload_n 1, 1) := by decide +kernel
theorem dX4_mixCell_37 : decode cX4_mixCell 37 = .ok (.invokevirtual 142, 3) := by decide +kernel
theorem dX4_mixCell_40 : decode cX4_mixCell 40 = .ok (.i2l, 1) := by decide +kernel
theorem dX4_mixCell_41 : decode cX4_mixCell 41 = .ok (.invokevirtual 154, 3) := by decide +kernel
theorem dX4_mixCell_44 : decode cX4_mixCell 44 = .ok (.aload_n 0, 1) := by decide +kernel
theorem dX4_mixCell_45 : decode cX4_mixCell 45 = .ok (.aload_n 0, 1) := by decide +kernel
theorem dX4_mixCell_46 : decode cX4_mixCell 46 = .ok (.iload_n 1, 1) := by decide +kernel
theorem dX4_mixCell_47 : decode cX4_mixCell 47 = .ok (.iconst 5, 1) := by decide +kernel
theorem dX4_mixCell_48 : decode cX4_mixCell 48 = .ok (.invokevirtual 50, 3) := by decide +kernel
theorem dX4_mixCell_51 : decode cX4_mixCell 51 = .ok (.i2l, 1) := by decide +kernel
theorem dX4_mixCell_52 : decode cX4_mixCell 52 = .ok (.invokevirtual 154, 3) := by decide +kernel
theorem dX4_mixCell_55 : decode cX4_mixCell 55 = .ok (.aload_n 0, 1) := by decide +kernel
theorem dX4_mixCell_56 : decode cX4_mixCell 56 = .ok (.aload_n 0, 1) := by decide +kernel
theorem dX4_mixCell_57 : decode cX4_mixCell 57 = .ok (.iload_n 1, 1) := by decide +kernel
theorem dX4_mixCell_58 : decode cX4_mixCell 58 = .ok (.bipush 8, 2) := by decide +kernel
theorem dX4_mixCell_60 : decode cX4_mixCell 60 = .ok (.invokevirtual 50, 3) := by decide +kernel
theorem dX4_mixCell_63 : decode cX4_mixCell 63 = .ok (.i2l, 1) := by decide +kernel
theorem dX4_mixCell_64 : decode cX4_mixCell 64 = .ok (.invokevirtual 154, 3) := by decide +kernel
theorem dX4_mixCell_67 : decode cX4_mixCell 67 = .ok (.aload_n 0, 1) := by decide +kernel
theorem dX4_mixCell_68 : decode cX4_mixCell 68 = .ok (.aload_n 0, 1) := by decide +kernel
theorem dX4_mixCell_69 : decode cX4_mixCell 69 = .ok (.getfield 19, 3) := by decide +kernel
theorem dX4_mixCell_72 : decode cX4_mixCell 72 = .ok (.iload_n 1, 1) := by decide +kernel
theorem dX4_mixCell_73 : decode cX4_mixCell 73 = .ok (.iaload, 1) := by decide +kernel
theorem dX4_mixCell_74 : decode cX4_mixCell 74 = .ok (.i2l, 1) := by decide +kernel
theorem dX4_mixCell_75 : decode cX4_mixCell 75 = .ok (.invokevirtual 154, 3) := by decide +kernel
theorem dX4_mixCell_78 : decode cX4_mixCell 78 = .ok (.aload_n 0, 1) := by decide +kernel
theorem dX4_mixCell_79 : decode cX4_mixCell 79 = .ok (.aload_n 0, 1) := by decide +kernel
theorem dX4_mixCell_80 : decode cX4_mixCell 80 = .ok (.iload_n 1, 1) := by decide +kernel
theorem dX4_mixCell_81 : decode cX4_mixCell 81 = .ok (.invokevirtual 145, 3) := by decide +kernel
theorem dX4_mixCell_84 : decode cX4_mixCell 84 = .ok (.i2l, 1) := by decide +kernel
theorem dX4_mixCell_85 : decode cX4_mixCell 85 = .ok (.invokevirtual 154, 3) := by decide +kernel
theorem dX4_mixCell_88 : decode cX4_mixCell 88 = .ok (.return_, 1) := by decide +kernel
theorem dX4_digest_0 : decode cX4_digest 0 = .ok (.aload_n 0, 1) := by decide +kernel
theorem dX4_digest_1 : decode cX4_digest 1 = .ok (.invokevirtual 102, 3) := by decide +kernel
theorem dX4_digest_4 : decode cX4_digest 4 = .ok (.aload_n 0, 1) := by decide +kernel
theorem dX4_digest_5 : decode cX4_digest 5 = .ok (.ldc2_w 158, 3) := by decide +kernel
theorem dX4_digest_8 : decode cX4_digest 8 = .ok (.putfield 150, 3) := by decide +kernel
theorem dX4_digest_11 : decode cX4_digest 11 = .ok (.iconst 0, 1) := by decide +kernel
theorem dX4_digest_12 : decode cX4_digest 12 = .ok (.istore_n 1, 1) := by decide +kernel
theorem dX4_digest_13 : decode cX4_digest 13 = .ok (.iload_n 1, 1) := by decide +kernel
theorem dX4_digest_14 : decode cX4_digest 14 = .ok (.iconst 3, 1) := by decide +kernel
theorem dX4_digest_15 : decode cX4_digest 15 = .ok (.if_icmp .ge 20, 3) := by decide +kernel
theorem dX4_digest_18 : decode cX4_digest 18 = .ok (.aload_n 0, 1) := by decide +kernel
theorem dX4_digest_19 : decode cX4_digest 19 = .ok (.aload_n 0, 1) := by decide +kernel
theorem dX4_digest_20 : decode cX4_digest 20 = .ok (.getfield 16, 3) := by decide +kernel
theorem dX4_digest_23 : decode cX4_digest 23 = .ok (.iload_n 1, 1) := by decide +kernel
theorem dX4_digest_24 : decode cX4_digest 24 = .ok (.iaload, 1) := by decide +kernel
theorem dX4_digest_25 : decode cX4_digest 25 = .ok (.i2l, 1) := by decide +kernel
theorem dX4_digest_26 : decode cX4_digest 26 = .ok (.invokevirtual 154, 3) := by decide +kernel
theorem dX4_digest_29 : decode cX4_digest 29 = .ok (.iinc 1 1, 3) := by decide +kernel
theorem dX4_digest_32 : decode cX4_digest 32 = .ok (.goto (-19), 3) := by decide +kernel
theorem dX4_digest_35 : decode cX4_digest 35 = .ok (.aload_n 0, 1) := by decide +kernel
theorem dX4_digest_36 : decode cX4_digest 36 = .ok (.aload_n 0, 1) := by decide +kernel
theorem dX4_digest_37 : decode cX4_digest 37 = .ok (.getfield 46, 3) := by decide +kernel
theorem dX4_digest_40 : decode cX4_digest 40 = .ok (.i2l, 1) := by decide +kernel
theorem dX4_digest_41 : decode cX4_digest 41 = .ok (.invokevirtual 154, 3) := by decide +kernel
theorem dX4_digest_44 : decode cX4_digest 44 = .ok (.aload_n 0, 1) := by decide +kernel
theorem dX4_digest_45 : decode cX4_digest 45 = .ok (.aload_n 0, 1) := by decide +kernel
theorem dX4_digest_46 : decode cX4_digest 46 = .ok (.getfield 7, 3) := by decide +kernel
theorem dX4_digest_49 : decode cX4_digest 49 = .ok (.iconst 1, 1) := by decide +kernel
theorem dX4_digest_50 : decode cX4_digest 50 = .ok (.iaload, 1) := by decide +kernel
theorem dX4_digest_51 : decode cX4_digest 51 = .ok (.i2l, 1) := by decide +kernel
theorem dX4_digest_52 : decode cX4_digest 52 = .ok (.invokevirtual 154, 3) := by decide +kernel
theorem dX4_digest_55 : decode cX4_digest 55 = .ok (.aload_n 0, 1) := by decide +kernel
theorem dX4_digest_56 : decode cX4_digest 56 = .ok (.aload_n 0, 1) := by decide +kernel
theorem dX4_digest_57 : decode cX4_digest 57 = .ok (.getfield 7, 3) := by decide +kernel
theorem dX4_digest_60 : decode cX4_digest 60 = .ok (.iconst 3, 1) := by decide +kernel
theorem dX4_digest_61 : decode cX4_digest 61 = .ok (.iaload, 1) := by decide +kernel
theorem dX4_digest_62 : decode cX4_digest 62 = .ok (.i2l, 1) := by decide +kernel
theorem dX4_digest_63 : decode cX4_digest 63 = .ok (.invokevirtual 154, 3) := by decide +kernel
theorem dX4_digest_66 : decode cX4_digest 66 = .ok (.aload_n 0, 1) := by decide +kernel
theorem dX4_digest_67 : decode cX4_digest 67 = .ok (.aload_n 0, 1) := by decide +kernel
theorem dX4_digest_68 : decode cX4_digest 68 = .ok (.getfield 7, 3) := by decide +kernel
theorem dX4_digest_71 : decode cX4_digest 71 = .ok (.iconst 4, 1) := by decide +kernel
theorem dX4_digest_72 : decode cX4_digest 72 = .ok (.iaload, 1) := by decide +kernel
theorem dX4_digest_73 : decode cX4_digest 73 = .ok (.i2l, 1) := by decide +kernel
theorem dX4_digest_74 : decode cX4_digest 74 = .ok (.invokevirtual 154, 3) := by decide +kernel
theorem dX4_digest_77 : decode cX4_digest 77 = .ok (.iconst 0, 1) := by decide +kernel
theorem dX4_digest_78 : decode cX4_digest 78 = .ok (.istore_n 1, 1) := by decide +kernel
theorem dX4_digest_79 : decode cX4_digest 79 = .ok (.iload_n 1, 1) := by decide +kernel
theorem dX4_digest_80 : decode cX4_digest 80 = .ok (.aload_n 0, 1) := by decide +kernel
theorem dX4_digest_81 : decode cX4_digest 81 = .ok (.getfield 7, 3) := by decide +kernel
theorem dX4_digest_84 : decode cX4_digest 84 = .ok (.iconst 4, 1) := by decide +kernel
theorem dX4_digest_85 : decode cX4_digest 85 = .ok (.iaload, 1) := by decide +kernel
theorem dX4_digest_86 : decode cX4_digest 86 = .ok (.if_icmp .ge 22, 3) := by decide +kernel
theorem dX4_digest_89 : decode cX4_digest 89 = .ok (.aload_n 0, 1) := by decide +kernel
theorem dX4_digest_90 : decode cX4_digest 90 = .ok (.aload_n 0, 1) := by decide +kernel
theorem dX4_digest_91 : decode cX4_digest 91 = .ok (.getfield 7, 3) := by decide +kernel
theorem dX4_digest_94 : decode cX4_digest 94 = .ok (.iconst 5, 1) := by decide +kernel
theorem dX4_digest_95 : decode cX4_digest 95 = .ok (.iload_n 1, 1) := by decide +kernel
theorem dX4_digest_96 : decode cX4_digest 96 = .ok (.iadd, 1) := by decide +kernel
theorem dX4_digest_97 : decode cX4_digest 97 = .ok (.iaload, 1) := by decide +kernel
theorem dX4_digest_98 : decode cX4_digest 98 = .ok (.i2l, 1) := by decide +kernel
theorem dX4_digest_99 : decode cX4_digest 99 = .ok (.invokevirtual 154, 3) := by decide +kernel
theorem dX4_digest_102 : decode cX4_digest 102 = .ok (.iinc 1 1, 3) := by decide +kernel
theorem dX4_digest_105 : decode cX4_digest 105 = .ok (.goto (-26), 3) := by decide +kernel
theorem dX4_digest_108 : decode cX4_digest 108 = .ok (.aload_n 0, 1) := by decide +kernel
theorem dX4_digest_109 : decode cX4_digest 109 = .ok (.aload_n 0, 1) := by decide +kernel
theorem dX4_digest_110 : decode cX4_digest 110 = .ok (.getfield 7, 3) := by decide +kernel
theorem dX4_digest_113 : decode cX4_digest 113 = .ok (.iconst 0, 1) := by decide +kernel
theorem dX4_digest_114 : decode cX4_digest 114 = .ok (.iaload, 1) := by decide +kernel
theorem dX4_digest_115 : decode cX4_digest 115 = .ok (.i2l, 1) := by decide +kernel
theorem dX4_digest_116 : decode cX4_digest 116 = .ok (.invokevirtual 154, 3) := by decide +kernel
theorem dX4_digest_119 : decode cX4_digest 119 = .ok (.iconst 0, 1) := by decide +kernel
theorem dX4_digest_120 : decode cX4_digest 120 = .ok (.istore_n 1, 1) := by decide +kernel
theorem dX4_digest_121 : decode cX4_digest 121 = .ok (.iload_n 1, 1) := by decide +kernel
theorem dX4_digest_122 : decode cX4_digest 122 = .ok (.aload_n 0, 1) := by decide +kernel
theorem dX4_digest_123 : decode cX4_digest 123 = .ok (.getfield 7, 3) := by decide +kernel
theorem dX4_digest_126 : decode cX4_digest 126 = .ok (.iconst 0, 1) := by decide +kernel
theorem dX4_digest_127 : decode cX4_digest 127 = .ok (.iaload, 1) := by decide +kernel
theorem dX4_digest_128 : decode cX4_digest 128 = .ok (.if_icmp .ge 14, 3) := by decide +kernel
theorem dX4_digest_131 : decode cX4_digest 131 = .ok (.aload_n 0, 1) := by decide +kernel
theorem dX4_digest_132 : decode cX4_digest 132 = .ok (.iload_n 1, 1) := by decide +kernel
theorem dX4_digest_133 : decode cX4_digest 133 = .ok (.invokevirtual 160, 3) := by decide +kernel
theorem dX4_digest_136 : decode cX4_digest 136 = .ok (.iinc 1 1, 3) := by decide +kernel
theorem dX4_digest_139 : decode cX4_digest 139 = .ok (.goto (-18), 3) := by decide +kernel
theorem dX4_digest_142 : decode cX4_digest 142 = .ok (.aload_n 0, 1) := by decide +kernel
theorem dX4_digest_143 : decode cX4_digest 143 = .ok (.aload_n 0, 1) := by decide +kernel
theorem dX4_digest_144 : decode cX4_digest 144 = .ok (.getfield 70, 3) := by decide +kernel
theorem dX4_digest_147 : decode cX4_digest 147 = .ok (.i2l, 1) := by decide +kernel
theorem dX4_digest_148 : decode cX4_digest 148 = .ok (.invokevirtual 154, 3) := by decide +kernel
theorem dX4_digest_151 : decode cX4_digest 151 = .ok (.iconst 0, 1) := by decide +kernel
theorem dX4_digest_152 : decode cX4_digest 152 = .ok (.istore_n 1, 1) := by decide +kernel
theorem dX4_digest_153 : decode cX4_digest 153 = .ok (.iload_n 1, 1) := by decide +kernel
theorem dX4_digest_154 : decode cX4_digest 154 = .ok (.aload_n 0, 1) := by decide +kernel
theorem dX4_digest_155 : decode cX4_digest 155 = .ok (.getfield 70, 3) := by decide +kernel
theorem dX4_digest_158 : decode cX4_digest 158 = .ok (.if_icmp .ge 20, 3) := by decide +kernel
theorem dX4_digest_161 : decode cX4_digest 161 = .ok (.aload_n 0, 1) := by decide +kernel
theorem dX4_digest_162 : decode cX4_digest 162 = .ok (.aload_n 0, 1) := by decide +kernel
theorem dX4_digest_163 : decode cX4_digest 163 = .ok (.getfield 28, 3) := by decide +kernel
theorem dX4_digest_166 : decode cX4_digest 166 = .ok (.iload_n 1, 1) := by decide +kernel
theorem dX4_digest_167 : decode cX4_digest 167 = .ok (.iaload, 1) := by decide +kernel
theorem dX4_digest_168 : decode cX4_digest 168 = .ok (.i2l, 1) := by decide +kernel
theorem dX4_digest_169 : decode cX4_digest 169 = .ok (.invokevirtual 154, 3) := by decide +kernel
theorem dX4_digest_172 : decode cX4_digest 172 = .ok (.iinc 1 1, 3) := by decide +kernel
theorem dX4_digest_175 : decode cX4_digest 175 = .ok (.goto (-22), 3) := by decide +kernel
theorem dX4_digest_178 : decode cX4_digest 178 = .ok (.aload_n 0, 1) := by decide +kernel
theorem dX4_digest_179 : decode cX4_digest 179 = .ok (.getfield 150, 3) := by decide +kernel
theorem dX4_digest_182 : decode cX4_digest 182 = .ok (.lreturn, 1) := by decide +kernel
theorem dJ6_bitCount_0f7a4_0 : decode cJ6_bitCount_0f7a4 0 = .ok (.iload_n 0, 1) := by decide +kernel
theorem dJ6_bitCount_0f7a4_1 : decode cJ6_bitCount_0f7a4 1 = .ok (.iload_n 0, 1) := by decide +kernel
theorem dJ6_bitCount_0f7a4_2 : decode cJ6_bitCount_0f7a4 2 = .ok (.iconst 1, 1) := by decide +kernel
theorem dJ6_bitCount_0f7a4_3 : decode cJ6_bitCount_0f7a4 3 = .ok (.iushr, 1) := by decide +kernel
theorem dJ6_bitCount_0f7a4_4 : decode cJ6_bitCount_0f7a4 4 = .ok (.ldc_w 265, 3) := by decide +kernel
theorem dJ6_bitCount_0f7a4_7 : decode cJ6_bitCount_0f7a4 7 = .ok (.iand, 1) := by decide +kernel
theorem dJ6_bitCount_0f7a4_8 : decode cJ6_bitCount_0f7a4 8 = .ok (.isub, 1) := by decide +kernel
theorem dJ6_bitCount_0f7a4_9 : decode cJ6_bitCount_0f7a4 9 = .ok (.istore_n 0, 1) := by decide +kernel
theorem dJ6_bitCount_0f7a4_10 : decode cJ6_bitCount_0f7a4 10 = .ok (.iload_n 0, 1) := by decide +kernel
theorem dJ6_bitCount_0f7a4_11 : decode cJ6_bitCount_0f7a4 11 = .ok (.ldc_w 266, 3) := by decide +kernel
theorem dJ6_bitCount_0f7a4_14 : decode cJ6_bitCount_0f7a4 14 = .ok (.iand, 1) := by decide +kernel
theorem dJ6_bitCount_0f7a4_15 : decode cJ6_bitCount_0f7a4 15 = .ok (.iload_n 0, 1) := by decide +kernel
theorem dJ6_bitCount_0f7a4_16 : decode cJ6_bitCount_0f7a4 16 = .ok (.iconst 2, 1) := by decide +kernel
theorem dJ6_bitCount_0f7a4_17 : decode cJ6_bitCount_0f7a4 17 = .ok (.iushr, 1) := by decide +kernel
theorem dJ6_bitCount_0f7a4_18 : decode cJ6_bitCount_0f7a4 18 = .ok (.ldc_w 266, 3) := by decide +kernel
theorem dJ6_bitCount_0f7a4_21 : decode cJ6_bitCount_0f7a4 21 = .ok (.iand, 1) := by decide +kernel
theorem dJ6_bitCount_0f7a4_22 : decode cJ6_bitCount_0f7a4 22 = .ok (.iadd, 1) := by decide +kernel
theorem dJ6_bitCount_0f7a4_23 : decode cJ6_bitCount_0f7a4 23 = .ok (.istore_n 0, 1) := by decide +kernel
theorem dJ6_bitCount_0f7a4_24 : decode cJ6_bitCount_0f7a4 24 = .ok (.iload_n 0, 1) := by decide +kernel
theorem dJ6_bitCount_0f7a4_25 : decode cJ6_bitCount_0f7a4 25 = .ok (.iload_n 0, 1) := by decide +kernel
theorem dJ6_bitCount_0f7a4_26 : decode cJ6_bitCount_0f7a4 26 = .ok (.iconst 4, 1) := by decide +kernel
theorem dJ6_bitCount_0f7a4_27 : decode cJ6_bitCount_0f7a4 27 = .ok (.iushr, 1) := by decide +kernel
theorem dJ6_bitCount_0f7a4_28 : decode cJ6_bitCount_0f7a4 28 = .ok (.iadd, 1) := by decide +kernel
theorem dJ6_bitCount_0f7a4_29 : decode cJ6_bitCount_0f7a4 29 = .ok (.ldc_w 267, 3) := by decide +kernel
theorem dJ6_bitCount_0f7a4_32 : decode cJ6_bitCount_0f7a4 32 = .ok (.iand, 1) := by decide +kernel
theorem dJ6_bitCount_0f7a4_33 : decode cJ6_bitCount_0f7a4 33 = .ok (.istore_n 0, 1) := by decide +kernel
theorem dJ6_bitCount_0f7a4_34 : decode cJ6_bitCount_0f7a4 34 = .ok (.iload_n 0, 1) := by decide +kernel
theorem dJ6_bitCount_0f7a4_35 : decode cJ6_bitCount_0f7a4 35 = .ok (.iload_n 0, 1) := by decide +kernel
theorem dJ6_bitCount_0f7a4_36 : decode cJ6_bitCount_0f7a4 36 = .ok (.bipush 8, 2) := by decide +kernel
theorem dJ6_bitCount_0f7a4_38 : decode cJ6_bitCount_0f7a4 38 = .ok (.iushr, 1) := by decide +kernel
theorem dJ6_bitCount_0f7a4_39 : decode cJ6_bitCount_0f7a4 39 = .ok (.iadd, 1) := by decide +kernel
theorem dJ6_bitCount_0f7a4_40 : decode cJ6_bitCount_0f7a4 40 = .ok (.istore_n 0, 1) := by decide +kernel
theorem dJ6_bitCount_0f7a4_41 : decode cJ6_bitCount_0f7a4 41 = .ok (.iload_n 0, 1) := by decide +kernel
theorem dJ6_bitCount_0f7a4_42 : decode cJ6_bitCount_0f7a4 42 = .ok (.iload_n 0, 1) := by decide +kernel
theorem dJ6_bitCount_0f7a4_43 : decode cJ6_bitCount_0f7a4 43 = .ok (.bipush 16, 2) := by decide +kernel
theorem dJ6_bitCount_0f7a4_45 : decode cJ6_bitCount_0f7a4 45 = .ok (.iushr, 1) := by decide +kernel
theorem dJ6_bitCount_0f7a4_46 : decode cJ6_bitCount_0f7a4 46 = .ok (.iadd, 1) := by decide +kernel
theorem dJ6_bitCount_0f7a4_47 : decode cJ6_bitCount_0f7a4 47 = .ok (.istore_n 0, 1) := by decide +kernel
theorem dJ6_bitCount_0f7a4_48 : decode cJ6_bitCount_0f7a4 48 = .ok (.iload_n 0, 1) := by decide +kernel
theorem dJ6_bitCount_0f7a4_49 : decode cJ6_bitCount_0f7a4 49 = .ok (.bipush 63, 2) := by decide +kernel
theorem dJ6_bitCount_0f7a4_51 : decode cJ6_bitCount_0f7a4 51 = .ok (.iand, 1) := by decide +kernel
theorem dJ6_bitCount_0f7a4_52 : decode cJ6_bitCount_0f7a4 52 = .ok (.ireturn, 1) := by decide +kernel
theorem dJ9_abs_0f7a4_0 : decode cJ9_abs_0f7a4 0 = .ok (.iload_n 0, 1) := by decide +kernel
theorem dJ9_abs_0f7a4_1 : decode cJ9_abs_0f7a4 1 = .ok (.ifCond .ge 8, 3) := by decide +kernel
theorem dJ9_abs_0f7a4_4 : decode cJ9_abs_0f7a4 4 = .ok (.iload_n 0, 1) := by decide +kernel
theorem dJ9_abs_0f7a4_5 : decode cJ9_abs_0f7a4 5 = .ok (.ineg, 1) := by decide +kernel
theorem dJ9_abs_0f7a4_6 : decode cJ9_abs_0f7a4 6 = .ok (.goto 4, 3) := by decide +kernel
theorem dJ9_abs_0f7a4_9 : decode cJ9_abs_0f7a4 9 = .ok (.iload_n 0, 1) := by decide +kernel
theorem dJ9_abs_0f7a4_10 : decode cJ9_abs_0f7a4 10 = .ok (.ireturn, 1) := by decide +kernel
theorem dJ9_max_7cf53_0 : decode cJ9_max_7cf53 0 = .ok (.iload_n 0, 1) := by decide +kernel
theorem dJ9_max_7cf53_1 : decode cJ9_max_7cf53 1 = .ok (.iload_n 1, 1) := by decide +kernel
theorem dJ9_max_7cf53_2 : decode cJ9_max_7cf53 2 = .ok (.if_icmp .lt 7, 3) := by decide +kernel
theorem dJ9_max_7cf53_5 : decode cJ9_max_7cf53 5 = .ok (.iload_n 0, 1) := by decide +kernel
theorem dJ9_max_7cf53_6 : decode cJ9_max_7cf53 6 = .ok (.goto 4, 3) := by decide +kernel
theorem dJ9_max_7cf53_9 : decode cJ9_max_7cf53 9 = .ok (.iload_n 1, 1) := by decide +kernel
theorem dJ9_max_7cf53_10 : decode cJ9_max_7cf53 10 = .ok (.ireturn, 1) := by decide +kernel
theorem dJ9_min_7cf53_0 : decode cJ9_min_7cf53 0 = .ok (.iload_n 0, 1) := by decide +kernel
theorem dJ9_min_7cf53_1 : decode cJ9_min_7cf53 1 = .ok (.iload_n 1, 1) := by decide +kernel
theorem dJ9_min_7cf53_2 : decode cJ9_min_7cf53 2 = .ok (.if_icmp .gt 7, 3) := by decide +kernel
theorem dJ9_min_7cf53_5 : decode cJ9_min_7cf53 5 = .ok (.iload_n 0, 1) := by decide +kernel
theorem dJ9_min_7cf53_6 : decode cJ9_min_7cf53 6 = .ok (.goto 4, 3) := by decide +kernel
theorem dJ9_min_7cf53_9 : decode cJ9_min_7cf53 9 = .ok (.iload_n 1, 1) := by decide +kernel
theorem dJ9_min_7cf53_10 : decode cJ9_min_7cf53 10 = .ok (.ireturn, 1) := by decide +kernel
theorem dL_law_0 : decode cL_law 0 = .ok (.new 7, 3) := by decide +kernel
theorem dL_law_3 : decode cL_law 3 = .ok (.dup, 1) := by decide +kernel
theorem dL_law_4 : decode cL_law 4 = .ok (.invokespecial 9, 3) := by decide +kernel
theorem dL_law_7 : decode cL_law 7 = .ok (.astore_n 1, 1) := by decide +kernel
theorem dL_law_8 : decode cL_law 8 = .ok (.new 10, 3) := by decide +kernel
theorem dL_law_11 : decode cL_law 11 = .ok (.dup, 1) := by decide +kernel
theorem dL_law_12 : decode cL_law 12 = .ok (.invokespecial 12, 3) := by decide +kernel
theorem dL_law_15 : decode cL_law 15 = .ok (.astore_n 2, 1) := by decide +kernel
theorem dL_law_16 : decode cL_law 16 = .ok (.iconst 0, 1) := by decide +kernel
theorem dL_law_17 : decode cL_law 17 = .ok (.istore_n 3, 1) := by decide +kernel
theorem dL_law_18 : decode cL_law 18 = .ok (.iload_n 3, 1) := by decide +kernel
theorem dL_law_19 : decode cL_law 19 = .ok (.aload_n 0, 1) := by decide +kernel
theorem dL_law_20 : decode cL_law 20 = .ok (.arraylength, 1) := by decide +kernel
theorem dL_law_21 : decode cL_law 21 = .ok (.bipush 6, 2) := by decide +kernel
theorem dL_law_23 : decode cL_law 23 = .ok (.isub, 1) := by decide +kernel
theorem dL_law_24 : decode cL_law 24 = .ok (.if_icmp .gt 733, 3) := by decide +kernel
theorem dL_law_27 : decode cL_law 27 = .ok (.aload_n 0, 1) := by decide +kernel
theorem dL_law_28 : decode cL_law 28 = .ok (.iload_n 3, 1) := by decide +kernel
theorem dL_law_29 : decode cL_law 29 = .ok (.iaload, 1) := by decide +kernel
theorem dL_law_30 : decode cL_law 30 = .ok (.bipush 31, 2) := by decide +kernel
theorem dL_law_32 : decode cL_law 32 = .ok (.iand, 1) := by decide +kernel
theorem dL_law_33 : decode cL_law 33 = .ok (.tableswitch 718 0 25 #[119, 172, 235, 258, 291, 314, 327, 350, 363, 386, 399, 422, 445, 468, 491, 514, 537, 550, 573, 596, 619, 632, 655, 668, 681, 704], 119) := by decide +kernel
theorem dL_law_152 : decode cL_law 152 = .ok (.aload_n 1, 1) := by decide +kernel
theorem dL_law_153 : decode cL_law 153 = .ok (.aload_n 0, 1) := by decide +kernel
theorem dL_law_154 : decode cL_law 154 = .ok (.iload_n 3, 1) := by decide +kernel
theorem dL_law_155 : decode cL_law 155 = .ok (.iconst 1, 1) := by decide +kernel
theorem dL_law_156 : decode cL_law 156 = .ok (.iadd, 1) := by decide +kernel
theorem dL_law_157 : decode cL_law 157 = .ok (.iaload, 1) := by decide +kernel
theorem dL_law_158 : decode cL_law 158 = .ok (.aload_n 0, 1) := by decide +kernel
theorem dL_law_159 : decode cL_law 159 = .ok (.iload_n 3, 1) := by decide +kernel
theorem dL_law_160 : decode cL_law 160 = .ok (.iconst 2, 1) := by decide +kernel
theorem dL_law_161 : decode cL_law 161 = .ok (.iadd, 1) := by decide +kernel
theorem dL_law_162 : decode cL_law 162 = .ok (.iaload, 1) := by decide +kernel
theorem dL_law_163 : decode cL_law 163 = .ok (.aload_n 0, 1) := by decide +kernel
theorem dL_law_164 : decode cL_law 164 = .ok (.iload_n 3, 1) := by decide +kernel
theorem dL_law_165 : decode cL_law 165 = .ok (.iconst 3, 1) := by decide +kernel
theorem dL_law_166 : decode cL_law 166 = .ok (.iadd, 1) := by decide +kernel
theorem dL_law_167 : decode cL_law 167 = .ok (.iaload, 1) := by decide +kernel
theorem dL_law_168 : decode cL_law 168 = .ok (.aload_n 0, 1) := by decide +kernel
theorem dL_law_169 : decode cL_law 169 = .ok (.iload_n 3, 1) := by decide +kernel
theorem dL_law_170 : decode cL_law 170 = .ok (.iconst 4, 1) := by decide +kernel
theorem dL_law_171 : decode cL_law 171 = .ok (.iadd, 1) := by decide +kernel
theorem dL_law_172 : decode cL_law 172 = .ok (.iaload, 1) := by decide +kernel
theorem dL_law_173 : decode cL_law 173 = .ok (.invokevirtual 13, 3) := by decide +kernel
theorem dL_law_176 : decode cL_law 176 = .ok (.aload_n 2, 1) := by decide +kernel
theorem dL_law_177 : decode cL_law 177 = .ok (.aload_n 0, 1) := by decide +kernel
theorem dL_law_178 : decode cL_law 178 = .ok (.iload_n 3, 1) := by decide +kernel
theorem dL_law_179 : decode cL_law 179 = .ok (.iconst 1, 1) := by decide +kernel
theorem dL_law_180 : decode cL_law 180 = .ok (.iadd, 1) := by decide +kernel
theorem dL_law_181 : decode cL_law 181 = .ok (.iaload, 1) := by decide +kernel
theorem dL_law_182 : decode cL_law 182 = .ok (.aload_n 0, 1) := by decide +kernel
theorem dL_law_183 : decode cL_law 183 = .ok (.iload_n 3, 1) := by decide +kernel
theorem dL_law_184 : decode cL_law 184 = .ok (.iconst 2, 1) := by decide +kernel
theorem dL_law_185 : decode cL_law 185 = .ok (.iadd, 1) := by decide +kernel
theorem dL_law_186 : decode cL_law 186 = .ok (.iaload, 1) := by decide +kernel
theorem dL_law_187 : decode cL_law 187 = .ok (.aload_n 0, 1) := by decide +kernel
theorem dL_law_188 : decode cL_law 188 = .ok (.iload_n 3, 1) := by decide +kernel
theorem dL_law_189 : decode cL_law 189 = .ok (.iconst 3, 1) := by decide +kernel
theorem dL_law_190 : decode cL_law 190 = .ok (.iadd, 1) := by decide +kernel
theorem dL_law_191 : decode cL_law 191 = .ok (.iaload, 1) := by decide +kernel
theorem dL_law_192 : decode cL_law 192 = .ok (.aload_n 0, 1) := by decide +kernel
theorem dL_law_193 : decode cL_law 193 = .ok (.iload_n 3, 1) := by decide +kernel
theorem dL_law_194 : decode cL_law 194 = .ok (.iconst 4, 1) := by decide +kernel
theorem dL_law_195 : decode cL_law 195 = .ok (.iadd, 1) := by decide +kernel
theorem dL_law_196 : decode cL_law 196 = .ok (.iaload, 1) := by decide +kernel
theorem dL_law_197 : decode cL_law 197 = .ok (.invokevirtual 17, 3) := by decide +kernel
theorem dL_law_200 : decode cL_law 200 = .ok (.if_icmp .eq 551, 3) := by decide +kernel
theorem dL_law_203 : decode cL_law 203 = .ok (.iconst 0, 1) := by decide +kernel
theorem dL_law_204 : decode cL_law 204 = .ok (.ireturn, 1) := by decide +kernel
theorem dL_law_205 : decode cL_law 205 = .ok (.aload_n 1, 1) := by decide +kernel
theorem dL_law_206 : decode cL_law 206 = .ok (.aload_n 0, 1) := by decide +kernel
theorem dL_law_207 : decode cL_law 207 = .ok (.iload_n 3, 1) := by decide +kernel
theorem dL_law_208 : decode cL_law 208 = .ok (.iconst 1, 1) := by decide +kernel
theorem dL_law_209 : decode cL_law 209 = .ok (.iadd, 1) := by decide +kernel
theorem dL_law_210 : decode cL_law 210 = .ok (.iaload, 1) := by decide +kernel
theorem dL_law_211 : decode cL_law 211 = .ok (.aload_n 0, 1) := by decide +kernel
theorem dL_law_212 : decode cL_law 212 = .ok (.iload_n 3, 1) := by decide +kernel
theorem dL_law_213 : decode cL_law 213 = .ok (.iconst 2, 1) := by decide +kernel
theorem dL_law_214 : decode cL_law 214 = .ok (.iadd, 1) := by decide +kernel
theorem dL_law_215 : decode cL_law 215 = .ok (.iaload, 1) := by decide +kernel
theorem dL_law_216 : decode cL_law 216 = .ok (.aload_n 0, 1) := by decide +kernel
theorem dL_law_217 : decode cL_law 217 = .ok (.iload_n 3, 1) := by decide +kernel
theorem dL_law_218 : decode cL_law 218 = .ok (.iconst 3, 1) := by decide +kernel
theorem dL_law_219 : decode cL_law 219 = .ok (.iadd, 1) := by decide +kernel
theorem dL_law_220 : decode cL_law 220 = .ok (.iaload, 1) := by decide +kernel
theorem dL_law_221 : decode cL_law 221 = .ok (.aload_n 0, 1) := by decide +kernel
theorem dL_law_222 : decode cL_law 222 = .ok (.iload_n 3, 1) := by decide +kernel
theorem dL_law_223 : decode cL_law 223 = .ok (.iconst 4, 1) := by decide +kernel
theorem dL_law_224 : decode cL_law 224 = .ok (.iadd, 1) := by decide +kernel
theorem dL_law_225 : decode cL_law 225 = .ok (.iaload, 1) := by decide +kernel
theorem dL_law_226 : decode cL_law 226 = .ok (.aload_n 0, 1) := by decide +kernel
theorem dL_law_227 : decode cL_law 227 = .ok (.iload_n 3, 1) := by decide +kernel
theorem dL_law_228 : decode cL_law 228 = .ok (.iconst 5, 1) := by decide +kernel
theorem dL_law_229 : decode cL_law 229 = .ok (.iadd, 1) := by decide +kernel
theorem dL_law_230 : decode cL_law 230 = .ok (.iaload, 1) := by decide +kernel
theorem dL_law_231 : decode cL_law 231 = .ok (.invokevirtual 18, 3) := by decide +kernel
theorem dL_law_234 : decode cL_law 234 = .ok (.aload_n 2, 1) := by decide +kernel
theorem dL_law_235 : decode cL_law 235 = .ok (.aload_n 0, 1) := by decide +kernel
theorem dL_law_236 : decode cL_law 236 = .ok (.iload_n 3, 1) := by decide +kernel
theorem dL_law_237 : decode cL_law 237 = .ok (.iconst 1, 1) := by decide +kernel
theorem dL_law_238 : decode cL_law 238 = .ok (.iadd, 1) := by decide +kernel
theorem dL_law_239 : decode cL_law 239 = .ok (.iaload, 1) := by decide +kernel
theorem dL_law_240 : decode cL_law 240 = .ok (.aload_n 0, 1) := by decide +kernel
theorem dL_law_241 : decode cL_law 241 = .ok (.iload_n 3, 1) := by decide +kernel
theorem dL_law_242 : decode cL_law 242 = .ok (.iconst 2, 1) := by decide +kernel
theorem dL_law_243 : decode cL_law 243 = .ok (.iadd, 1) := by decide +kernel
theorem dL_law_244 : decode cL_law 244 = .ok (.iaload, 1) := by decide +kernel
theorem dL_law_245 : decode cL_law 245 = .ok (.aload_n 0, 1) := by decide +kernel
theorem dL_law_246 : decode cL_law 246 = .ok (.iload_n 3, 1) := by decide +kernel
theorem dL_law_247 : decode cL_law 247 = .ok (.iconst 3, 1) := by decide +kernel
theorem dL_law_248 : decode cL_law 248 = .ok (.iadd, 1) := by decide +kernel
theorem dL_law_249 : decode cL_law 249 = .ok (.iaload, 1) := by decide +kernel
theorem dL_law_250 : decode cL_law 250 = .ok (.aload_n 0, 1) := by decide +kernel
theorem dL_law_251 : decode cL_law 251 = .ok (.iload_n 3, 1) := by decide +kernel
theorem dL_law_252 : decode cL_law 252 = .ok (.iconst 4, 1) := by decide +kernel
theorem dL_law_253 : decode cL_law 253 = .ok (.iadd, 1) := by decide +kernel
theorem dL_law_254 : decode cL_law 254 = .ok (.iaload, 1) := by decide +kernel
theorem dL_law_255 : decode cL_law 255 = .ok (.aload_n 0, 1) := by decide +kernel
theorem dL_law_256 : decode cL_law 256 = .ok (.iload_n 3, 1) := by decide +kernel
theorem dL_law_257 : decode cL_law 257 = .ok (.iconst 5, 1) := by decide +kernel
theorem dL_law_258 : decode cL_law 258 = .ok (.iadd, 1) := by decide +kernel
theorem dL_law_259 : decode cL_law 259 = .ok (.iaload, 1) := by decide +kernel
theorem dL_law_260 : decode cL_law 260 = .ok (.invokevirtual 22, 3) := by decide +kernel
theorem dL_law_263 : decode cL_law 263 = .ok (.if_icmp .eq 488, 3) := by decide +kernel
theorem dL_law_266 : decode cL_law 266 = .ok (.iconst 0, 1) := by decide +kernel
theorem dL_law_267 : decode cL_law 267 = .ok (.ireturn, 1) := by decide +kernel
theorem dL_law_268 : decode cL_law 268 = .ok (.aload_n 1, 1) := by decide +kernel
theorem dL_law_269 : decode cL_law 269 = .ok (.aload_n 0, 1) := by decide +kernel
theorem dL_law_270 : decode cL_law 270 = .ok (.iload_n 3, 1) := by decide +kernel
theorem dL_law_271 : decode cL_law 271 = .ok (.iconst 1, 1) := by decide +kernel
theorem dL_law_272 : decode cL_law 272 = .ok (.iadd, 1) := by decide +kernel
theorem dL_law_273 : decode cL_law 273 = .ok (.iaload, 1) := by decide +kernel
theorem dL_law_274 : decode cL_law 274 = .ok (.invokevirtual 23, 3) := by decide +kernel
theorem dL_law_277 : decode cL_law 277 = .ok (.aload_n 2, 1) := by decide +kernel
theorem dL_law_278 : decode cL_law 278 = .ok (.aload_n 0, 1) := by decide +kernel
theorem dL_law_279 : decode cL_law 279 = .ok (.iload_n 3, 1) := by decide +kernel
theorem dL_law_280 : decode cL_law 280 = .ok (.iconst 1, 1) := by decide +kernel
theorem dL_law_281 : decode cL_law 281 = .ok (.iadd, 1) := by decide +kernel
theorem dL_law_282 : decode cL_law 282 = .ok (.iaload, 1) := by decide +kernel
theorem dL_law_283 : decode cL_law 283 = .ok (.invokevirtual 27, 3) := by decide +kernel
theorem dL_law_286 : decode cL_law 286 = .ok (.if_icmp .eq 465, 3) := by decide +kernel
theorem dL_law_289 : decode cL_law 289 = .ok (.iconst 0, 1) := by decide +kernel
theorem dL_law_290 : decode cL_law 290 = .ok (.ireturn, 1) := by decide +kernel
theorem dL_law_291 : decode cL_law 291 = .ok (.aload_n 1, 1) := by decide +kernel
theorem dL_law_292 : decode cL_law 292 = .ok (.aload_n 0, 1) := by decide +kernel
theorem dL_law_293 : decode cL_law 293 = .ok (.iload_n 3, 1) := by decide +kernel
theorem dL_law_294 : decode cL_law 294 = .ok (.iconst 1, 1) := by decide +kernel
theorem dL_law_295 : decode cL_law 295 = .ok (.iadd, 1) := by decide +kernel
theorem dL_law_296 : decode cL_law 296 = .ok (.iaload, 1) := by decide +kernel
theorem dL_law_297 : decode cL_law 297 = .ok (.aload_n 0, 1) := by decide +kernel
theorem dL_law_298 : decode cL_law 298 = .ok (.iload_n 3, 1) := by decide +kernel
theorem dL_law_299 : decode cL_law 299 = .ok (.iconst 2, 1) := by decide +kernel
theorem dL_law_300 : decode cL_law 300 = .ok (.iadd, 1) := by decide +kernel
theorem dL_law_301 : decode cL_law 301 = .ok (.iaload, 1) := by decide +kernel
theorem dL_law_302 : decode cL_law 302 = .ok (.invokevirtual 28, 3) := by decide +kernel
theorem dL_law_305 : decode cL_law 305 = .ok (.aload_n 2, 1) := by decide +kernel
theorem dL_law_306 : decode cL_law 306 = .ok (.aload_n 0, 1) := by decide +kernel
theorem dL_law_307 : decode cL_law 307 = .ok (.iload_n 3, 1) := by decide +kernel
theorem dL_law_308 : decode cL_law 308 = .ok (.iconst 1, 1) := by decide +kernel
theorem dL_law_309 : decode cL_law 309 = .ok (.iadd, 1) := by decide +kernel
theorem dL_law_310 : decode cL_law 310 = .ok (.iaload, 1) := by decide +kernel
theorem dL_law_311 : decode cL_law 311 = .ok (.aload_n 0, 1) := by decide +kernel
theorem dL_law_312 : decode cL_law 312 = .ok (.iload_n 3, 1) := by decide +kernel
theorem dL_law_313 : decode cL_law 313 = .ok (.iconst 2, 1) := by decide +kernel
theorem dL_law_314 : decode cL_law 314 = .ok (.iadd, 1) := by decide +kernel
theorem dL_law_315 : decode cL_law 315 = .ok (.iaload, 1) := by decide +kernel
theorem dL_law_316 : decode cL_law 316 = .ok (.invokevirtual 32, 3) := by decide +kernel
theorem dL_law_319 : decode cL_law 319 = .ok (.if_icmp .eq 432, 3) := by decide +kernel
theorem dL_law_322 : decode cL_law 322 = .ok (.iconst 0, 1) := by decide +kernel
theorem dL_law_323 : decode cL_law 323 = .ok (.ireturn, 1) := by decide +kernel
theorem dL_law_324 : decode cL_law 324 = .ok (.aload_n 1, 1) := by decide +kernel
theorem dL_law_325 : decode cL_law 325 = .ok (.aload_n 0, 1) := by decide +kernel
theorem dL_law_326 : decode cL_law 326 = .ok (.iload_n 3, 1) := by decide +kernel
theorem dL_law_327 : decode cL_law 327 = .ok (.iconst 1, 1) := by decide +kernel
theorem dL_law_328 : decode cL_law 328 = .ok (.iadd, 1) := by decide +kernel
theorem dL_law_329 : decode cL_law 329 = .ok (.iaload, 1) := by decide +kernel
theorem dL_law_330 : decode cL_law 330 = .ok (.invokevirtual 33, 3) := by decide +kernel
theorem dL_law_333 : decode cL_law 333 = .ok (.aload_n 2, 1) := by decide +kernel
theorem dL_law_334 : decode cL_law 334 = .ok (.aload_n 0, 1) := by decide +kernel
theorem dL_law_335 : decode cL_law 335 = .ok (.iload_n 3, 1) := by decide +kernel
theorem dL_law_336 : decode cL_law 336 = .ok (.iconst 1, 1) := by decide +kernel
theorem dL_law_337 : decode cL_law 337 = .ok (.iadd, 1) := by decide +kernel
theorem dL_law_338 : decode cL_law 338 = .ok (.iaload, 1) := by decide +kernel
theorem dL_law_339 : decode cL_law 339 = .ok (.invokevirtual 36, 3) := by decide +kernel
theorem dL_law_342 : decode cL_law 342 = .ok (.if_icmp .eq 409, 3) := by decide +kernel
theorem dL_law_345 : decode cL_law 345 = .ok (.iconst 0, 1) := by decide +kernel
theorem dL_law_346 : decode cL_law 346 = .ok (.ireturn, 1) := by decide +kernel
theorem dL_law_347 : decode cL_law 347 = .ok (.aload_n 1, 1) := by decide +kernel
theorem dL_law_348 : decode cL_law 348 = .ok (.invokevirtual 37, 3) := by decide +kernel
theorem dL_law_351 : decode cL_law 351 = .ok (.aload_n 2, 1) := by decide +kernel
theorem dL_law_352 : decode cL_law 352 = .ok (.invokevirtual 41, 3) := by decide +kernel
theorem dL_law_355 : decode cL_law 355 = .ok (.if_icmp .eq 396, 3) := by decide +kernel
theorem dL_law_358 : decode cL_law 358 = .ok (.iconst 0, 1) := by decide +kernel
theorem dL_law_359 : decode cL_law 359 = .ok (.ireturn, 1) := by decide +kernel
theorem dL_law_360 : decode cL_law 360 = .ok (.aload_n 1, 1) := by decide +kernel
theorem dL_law_361 : decode cL_law 361 = .ok (.aload_n 0, 1) := by decide +kernel
theorem dL_law_362 : decode cL_law 362 = .ok (.iload_n 3, 1) := by decide +kernel
theorem dL_law_363 : decode cL_law 363 = .ok (.iconst 1, 1) := by decide +kernel
theorem dL_law_364 : decode cL_law 364 = .ok (.iadd, 1) := by decide +kernel
theorem dL_law_365 : decode cL_law 365 = .ok (.iaload, 1) := by decide +kernel
theorem dL_law_366 : decode cL_law 366 = .ok (.invokevirtual 42, 3) := by decide +kernel
theorem dL_law_369 : decode cL_law 369 = .ok (.aload_n 2, 1) := by decide +kernel
theorem dL_law_370 : decode cL_law 370 = .ok (.aload_n 0, 1) := by decide +kernel
theorem dL_law_371 : decode cL_law 371 = .ok (.iload_n 3, 1) := by decide +kernel
theorem dL_law_372 : decode cL_law 372 = .ok (.iconst 1, 1) := by decide +kernel
theorem dL_law_373 : decode cL_law 373 = .ok (.iadd, 1) := by decide +kernel
theorem dL_law_374 : decode cL_law 374 = .ok (.iaload, 1) := by decide +kernel
theorem dL_law_375 : decode cL_law 375 = .ok (.invokevirtual 45, 3) := by decide +kernel
theorem dL_law_378 : decode cL_law 378 = .ok (.if_icmp .eq 373, 3) := by decide +kernel
theorem dL_law_381 : decode cL_law 381 = .ok (.iconst 0, 1) := by decide +kernel
theorem dL_law_382 : decode cL_law 382 = .ok (.ireturn, 1) := by decide +kernel
theorem dL_law_383 : decode cL_law 383 = .ok (.aload_n 1, 1) := by decide +kernel
theorem dL_law_384 : decode cL_law 384 = .ok (.invokevirtual 46, 3) := by decide +kernel
theorem dL_law_387 : decode cL_law 387 = .ok (.aload_n 2, 1) := by decide +kernel
theorem dL_law_388 : decode cL_law 388 = .ok (.invokevirtual 49, 3) := by decide +kernel
theorem dL_law_391 : decode cL_law 391 = .ok (.if_icmp .eq 360, 3) := by decide +kernel
theorem dL_law_394 : decode cL_law 394 = .ok (.iconst 0, 1) := by decide +kernel
theorem dL_law_395 : decode cL_law 395 = .ok (.ireturn, 1) := by decide +kernel
theorem dL_law_396 : decode cL_law 396 = .ok (.aload_n 1, 1) := by decide +kernel
theorem dL_law_397 : decode cL_law 397 = .ok (.aload_n 0, 1) := by decide +kernel
theorem dL_law_398 : decode cL_law 398 = .ok (.iload_n 3, 1) := by decide +kernel
theorem dL_law_399 : decode cL_law 399 = .ok (.iconst 1, 1) := by decide +kernel
theorem dL_law_400 : decode cL_law 400 = .ok (.iadd, 1) := by decide +kernel
theorem dL_law_401 : decode cL_law 401 = .ok (.iaload, 1) := by decide +kernel
theorem dL_law_402 : decode cL_law 402 = .ok (.invokevirtual 50, 3) := by decide +kernel
theorem dL_law_405 : decode cL_law 405 = .ok (.aload_n 2, 1) := by decide +kernel
theorem dL_law_406 : decode cL_law 406 = .ok (.aload_n 0, 1) := by decide +kernel
theorem dL_law_407 : decode cL_law 407 = .ok (.iload_n 3, 1) := by decide +kernel
theorem dL_law_408 : decode cL_law 408 = .ok (.iconst 1, 1) := by decide +kernel
theorem dL_law_409 : decode cL_law 409 = .ok (.iadd, 1) := by decide +kernel
theorem dL_law_410 : decode cL_law 410 = .ok (.iaload, 1) := by decide +kernel
theorem dL_law_411 : decode cL_law 411 = .ok (.invokevirtual 53, 3) := by decide +kernel
theorem dL_law_414 : decode cL_law 414 = .ok (.if_icmp .eq 337, 3) := by decide +kernel
theorem dL_law_417 : decode cL_law 417 = .ok (.iconst 0, 1) := by decide +kernel
theorem dL_law_418 : decode cL_law 418 = .ok (.ireturn, 1) := by decide +kernel
theorem dL_law_419 : decode cL_law 419 = .ok (.aload_n 1, 1) := by decide +kernel
theorem dL_law_420 : decode cL_law 420 = .ok (.invokevirtual 54, 3) := by decide +kernel
theorem dL_law_423 : decode cL_law 423 = .ok (.aload_n 2, 1) := by decide +kernel
theorem dL_law_424 : decode cL_law 424 = .ok (.invokevirtual 57, 3) := by decide +kernel
theorem dL_law_427 : decode cL_law 427 = .ok (.if_icmp .eq 324, 3) := by decide +kernel
theorem dL_law_430 : decode cL_law 430 = .ok (.iconst 0, 1) := by decide +kernel
theorem dL_law_431 : decode cL_law 431 = .ok (.ireturn, 1) := by decide +kernel
theorem dL_law_432 : decode cL_law 432 = .ok (.aload_n 1, 1) := by decide +kernel
theorem dL_law_433 : decode cL_law 433 = .ok (.aload_n 0, 1) := by decide +kernel
theorem dL_law_434 : decode cL_law 434 = .ok (.iload_n 3, 1) := by decide +kernel
theorem dL_law_435 : decode cL_law 435 = .ok (.iconst 1, 1) := by decide +kernel
theorem dL_law_436 : decode cL_law 436 = .ok (.iadd, 1) := by decide +kernel
theorem dL_law_437 : decode cL_law 437 = .ok (.iaload, 1) := by decide +kernel
theorem dL_law_438 : decode cL_law 438 = .ok (.invokevirtual 58, 3) := by decide +kernel
theorem dL_law_441 : decode cL_law 441 = .ok (.aload_n 2, 1) := by decide +kernel
theorem dL_law_442 : decode cL_law 442 = .ok (.aload_n 0, 1) := by decide +kernel
theorem dL_law_443 : decode cL_law 443 = .ok (.iload_n 3, 1) := by decide +kernel
theorem dL_law_444 : decode cL_law 444 = .ok (.iconst 1, 1) := by decide +kernel
theorem dL_law_445 : decode cL_law 445 = .ok (.iadd, 1) := by decide +kernel
theorem dL_law_446 : decode cL_law 446 = .ok (.iaload, 1) := by decide +kernel
theorem dL_law_447 : decode cL_law 447 = .ok (.invokevirtual 61, 3) := by decide +kernel
theorem dL_law_450 : decode cL_law 450 = .ok (.if_icmp .eq 301, 3) := by decide +kernel
theorem dL_law_453 : decode cL_law 453 = .ok (.iconst 0, 1) := by decide +kernel
theorem dL_law_454 : decode cL_law 454 = .ok (.ireturn, 1) := by decide +kernel
theorem dL_law_455 : decode cL_law 455 = .ok (.aload_n 1, 1) := by decide +kernel
theorem dL_law_456 : decode cL_law 456 = .ok (.aload_n 0, 1) := by decide +kernel
theorem dL_law_457 : decode cL_law 457 = .ok (.iload_n 3, 1) := by decide +kernel
theorem dL_law_458 : decode cL_law 458 = .ok (.iconst 1, 1) := by decide +kernel
theorem dL_law_459 : decode cL_law 459 = .ok (.iadd, 1) := by decide +kernel
theorem dL_law_460 : decode cL_law 460 = .ok (.iaload, 1) := by decide +kernel
theorem dL_law_461 : decode cL_law 461 = .ok (.invokevirtual 62, 3) := by decide +kernel
theorem dL_law_464 : decode cL_law 464 = .ok (.aload_n 2, 1) := by decide +kernel
theorem dL_law_465 : decode cL_law 465 = .ok (.aload_n 0, 1) := by decide +kernel
theorem dL_law_466 : decode cL_law 466 = .ok (.iload_n 3, 1) := by decide +kernel
theorem dL_law_467 : decode cL_law 467 = .ok (.iconst 1, 1) := by decide +kernel
theorem dL_law_468 : decode cL_law 468 = .ok (.iadd, 1) := by decide +kernel
theorem dL_law_469 : decode cL_law 469 = .ok (.iaload, 1) := by decide +kernel
theorem dL_law_470 : decode cL_law 470 = .ok (.invokevirtual 65, 3) := by decide +kernel
theorem dL_law_473 : decode cL_law 473 = .ok (.if_icmp .eq 278, 3) := by decide +kernel
theorem dL_law_476 : decode cL_law 476 = .ok (.iconst 0, 1) := by decide +kernel
theorem dL_law_477 : decode cL_law 477 = .ok (.ireturn, 1) := by decide +kernel
theorem dL_law_478 : decode cL_law 478 = .ok (.aload_n 1, 1) := by decide +kernel
theorem dL_law_479 : decode cL_law 479 = .ok (.aload_n 0, 1) := by decide +kernel
theorem dL_law_480 : decode cL_law 480 = .ok (.iload_n 3, 1) := by decide +kernel
theorem dL_law_481 : decode cL_law 481 = .ok (.iconst 1, 1) := by decide +kernel
theorem dL_law_482 : decode cL_law 482 = .ok (.iadd, 1) := by decide +kernel
theorem dL_law_483 : decode cL_law 483 = .ok (.iaload, 1) := by decide +kernel
theorem dL_law_484 : decode cL_law 484 = .ok (.invokevirtual 66, 3) := by decide +kernel
theorem dL_law_487 : decode cL_law 487 = .ok (.aload_n 2, 1) := by decide +kernel
theorem dL_law_488 : decode cL_law 488 = .ok (.aload_n 0, 1) := by decide +kernel
theorem dL_law_489 : decode cL_law 489 = .ok (.iload_n 3, 1) := by decide +kernel
theorem dL_law_490 : decode cL_law 490 = .ok (.iconst 1, 1) := by decide +kernel
theorem dL_law_491 : decode cL_law 491 = .ok (.iadd, 1) := by decide +kernel
theorem dL_law_492 : decode cL_law 492 = .ok (.iaload, 1) := by decide +kernel
theorem dL_law_493 : decode cL_law 493 = .ok (.invokevirtual 69, 3) := by decide +kernel
theorem dL_law_496 : decode cL_law 496 = .ok (.if_icmp .eq 255, 3) := by decide +kernel
theorem dL_law_499 : decode cL_law 499 = .ok (.iconst 0, 1) := by decide +kernel
theorem dL_law_500 : decode cL_law 500 = .ok (.ireturn, 1) := by decide +kernel
theorem dL_law_501 : decode cL_law 501 = .ok (.aload_n 1, 1) := by decide +kernel
theorem dL_law_502 : decode cL_law 502 = .ok (.aload_n 0, 1) := by decide +kernel
theorem dL_law_503 : decode cL_law 503 = .ok (.iload_n 3, 1) := by decide +kernel
theorem dL_law_504 : decode cL_law 504 = .ok (.iconst 1, 1) := by decide +kernel
theorem dL_law_505 : decode cL_law 505 = .ok (.iadd, 1) := by decide +kernel
theorem dL_law_506 : decode cL_law 506 = .ok (.iaload, 1) := by decide +kernel
theorem dL_law_507 : decode cL_law 507 = .ok (.invokevirtual 70, 3) := by decide +kernel
theorem dL_law_510 : decode cL_law 510 = .ok (.aload_n 2, 1) := by decide +kernel
theorem dL_law_511 : decode cL_law 511 = .ok (.aload_n 0, 1) := by decide +kernel
theorem dL_law_512 : decode cL_law 512 = .ok (.iload_n 3, 1) := by decide +kernel
theorem dL_law_513 : decode cL_law 513 = .ok (.iconst 1, 1) := by decide +kernel
theorem dL_law_514 : decode cL_law 514 = .ok (.iadd, 1) := by decide +kernel
theorem dL_law_515 : decode cL_law 515 = .ok (.iaload, 1) := by decide +kernel
theorem dL_law_516 : decode cL_law 516 = .ok (.invokevirtual 73, 3) := by decide +kernel
theorem dL_law_519 : decode cL_law 519 = .ok (.if_icmp .eq 232, 3) := by decide +kernel
theorem dL_law_522 : decode cL_law 522 = .ok (.iconst 0, 1) := by decide +kernel
theorem dL_law_523 : decode cL_law 523 = .ok (.ireturn, 1) := by decide +kernel
theorem dL_law_524 : decode cL_law 524 = .ok (.aload_n 1, 1) := by decide +kernel
theorem dL_law_525 : decode cL_law 525 = .ok (.aload_n 0, 1) := by decide +kernel
theorem dL_law_526 : decode cL_law 526 = .ok (.iload_n 3, 1) := by decide +kernel
theorem dL_law_527 : decode cL_law 527 = .ok (.iconst 1, 1) := by decide +kernel
theorem dL_law_528 : decode cL_law 528 = .ok (.iadd, 1) := by decide +kernel
theorem dL_law_529 : decode cL_law 529 = .ok (.iaload, 1) := by decide +kernel
theorem dL_law_530 : decode cL_law 530 = .ok (.invokevirtual 74, 3) := by decide +kernel
theorem dL_law_533 : decode cL_law 533 = .ok (.aload_n 2, 1) := by decide +kernel
theorem dL_law_534 : decode cL_law 534 = .ok (.aload_n 0, 1) := by decide +kernel
theorem dL_law_535 : decode cL_law 535 = .ok (.iload_n 3, 1) := by decide +kernel
theorem dL_law_536 : decode cL_law 536 = .ok (.iconst 1, 1) := by decide +kernel
theorem dL_law_537 : decode cL_law 537 = .ok (.iadd, 1) := by decide +kernel
theorem dL_law_538 : decode cL_law 538 = .ok (.iaload, 1) := by decide +kernel
theorem dL_law_539 : decode cL_law 539 = .ok (.invokevirtual 77, 3) := by decide +kernel
theorem dL_law_542 : decode cL_law 542 = .ok (.if_icmp .eq 209, 3) := by decide +kernel
theorem dL_law_545 : decode cL_law 545 = .ok (.iconst 0, 1) := by decide +kernel
theorem dL_law_546 : decode cL_law 546 = .ok (.ireturn, 1) := by decide +kernel
theorem dL_law_547 : decode cL_law 547 = .ok (.aload_n 1, 1) := by decide +kernel
theorem dL_law_548 : decode cL_law 548 = .ok (.aload_n 0, 1) := by decide +kernel
theorem dL_law_549 : decode cL_law 549 = .ok (.iload_n 3, 1) := by decide +kernel
theorem dL_law_550 : decode cL_law 550 = .ok (.iconst 1, 1) := by decide +kernel
theorem dL_law_551 : decode cL_law 551 = .ok (.iadd, 1) := by decide +kernel
theorem dL_law_552 : decode cL_law 552 = .ok (.iaload, 1) := by decide +kernel
theorem dL_law_553 : decode cL_law 553 = .ok (.invokevirtual 78, 3) := by decide +kernel
theorem dL_law_556 : decode cL_law 556 = .ok (.aload_n 2, 1) := by decide +kernel
theorem dL_law_557 : decode cL_law 557 = .ok (.aload_n 0, 1) := by decide +kernel
theorem dL_law_558 : decode cL_law 558 = .ok (.iload_n 3, 1) := by decide +kernel
theorem dL_law_559 : decode cL_law 559 = .ok (.iconst 1, 1) := by decide +kernel
theorem dL_law_560 : decode cL_law 560 = .ok (.iadd, 1) := by decide +kernel
theorem dL_law_561 : decode cL_law 561 = .ok (.iaload, 1) := by decide +kernel
theorem dL_law_562 : decode cL_law 562 = .ok (.invokevirtual 81, 3) := by decide +kernel
theorem dL_law_565 : decode cL_law 565 = .ok (.if_icmp .eq 186, 3) := by decide +kernel
theorem dL_law_568 : decode cL_law 568 = .ok (.iconst 0, 1) := by decide +kernel
theorem dL_law_569 : decode cL_law 569 = .ok (.ireturn, 1) := by decide +kernel
theorem dL_law_570 : decode cL_law 570 = .ok (.aload_n 1, 1) := by decide +kernel
theorem dL_law_571 : decode cL_law 571 = .ok (.invokevirtual 82, 3) := by decide +kernel
theorem dL_law_574 : decode cL_law 574 = .ok (.aload_n 2, 1) := by decide +kernel
theorem dL_law_575 : decode cL_law 575 = .ok (.invokevirtual 85, 3) := by decide +kernel
theorem dL_law_578 : decode cL_law 578 = .ok (.if_icmp .eq 173, 3) := by decide +kernel
theorem dL_law_581 : decode cL_law 581 = .ok (.iconst 0, 1) := by decide +kernel
theorem dL_law_582 : decode cL_law 582 = .ok (.ireturn, 1) := by decide +kernel
theorem dL_law_583 : decode cL_law 583 = .ok (.aload_n 1, 1) := by decide +kernel
theorem dL_law_584 : decode cL_law 584 = .ok (.aload_n 0, 1) := by decide +kernel
theorem dL_law_585 : decode cL_law 585 = .ok (.iload_n 3, 1) := by decide +kernel
theorem dL_law_586 : decode cL_law 586 = .ok (.iconst 1, 1) := by decide +kernel
theorem dL_law_587 : decode cL_law 587 = .ok (.iadd, 1) := by decide +kernel
theorem dL_law_588 : decode cL_law 588 = .ok (.iaload, 1) := by decide +kernel
theorem dL_law_589 : decode cL_law 589 = .ok (.invokevirtual 86, 3) := by decide +kernel
theorem dL_law_592 : decode cL_law 592 = .ok (.aload_n 2, 1) := by decide +kernel
theorem dL_law_593 : decode cL_law 593 = .ok (.aload_n 0, 1) := by decide +kernel
theorem dL_law_594 : decode cL_law 594 = .ok (.iload_n 3, 1) := by decide +kernel
theorem dL_law_595 : decode cL_law 595 = .ok (.iconst 1, 1) := by decide +kernel
theorem dL_law_596 : decode cL_law 596 = .ok (.iadd, 1) := by decide +kernel
theorem dL_law_597 : decode cL_law 597 = .ok (.iaload, 1) := by decide +kernel
theorem dL_law_598 : decode cL_law 598 = .ok (.invokevirtual 89, 3) := by decide +kernel
theorem dL_law_601 : decode cL_law 601 = .ok (.if_icmp .eq 150, 3) := by decide +kernel
theorem dL_law_604 : decode cL_law 604 = .ok (.iconst 0, 1) := by decide +kernel
theorem dL_law_605 : decode cL_law 605 = .ok (.ireturn, 1) := by decide +kernel
theorem dL_law_606 : decode cL_law 606 = .ok (.aload_n 1, 1) := by decide +kernel
theorem dL_law_607 : decode cL_law 607 = .ok (.aload_n 0, 1) := by decide +kernel
theorem dL_law_608 : decode cL_law 608 = .ok (.iload_n 3, 1) := by decide +kernel
theorem dL_law_609 : decode cL_law 609 = .ok (.iconst 1, 1) := by decide +kernel
theorem dL_law_610 : decode cL_law 610 = .ok (.iadd, 1) := by decide +kernel
theorem dL_law_611 : decode cL_law 611 = .ok (.iaload, 1) := by decide +kernel
theorem dL_law_612 : decode cL_law 612 = .ok (.invokevirtual 90, 3) := by decide +kernel
theorem dL_law_615 : decode cL_law 615 = .ok (.aload_n 2, 1) := by decide +kernel
theorem dL_law_616 : decode cL_law 616 = .ok (.aload_n 0, 1) := by decide +kernel
theorem dL_law_617 : decode cL_law 617 = .ok (.iload_n 3, 1) := by decide +kernel
theorem dL_law_618 : decode cL_law 618 = .ok (.iconst 1, 1) := by decide +kernel
theorem dL_law_619 : decode cL_law 619 = .ok (.iadd, 1) := by decide +kernel
theorem dL_law_620 : decode cL_law 620 = .ok (.iaload, 1) := by decide +kernel
theorem dL_law_621 : decode cL_law 621 = .ok (.invokevirtual 93, 3) := by decide +kernel
theorem dL_law_624 : decode cL_law 624 = .ok (.if_icmp .eq 127, 3) := by decide +kernel
theorem dL_law_627 : decode cL_law 627 = .ok (.iconst 0, 1) := by decide +kernel
theorem dL_law_628 : decode cL_law 628 = .ok (.ireturn, 1) := by decide +kernel
theorem dL_law_629 : decode cL_law 629 = .ok (.aload_n 1, 1) := by decide +kernel
theorem dL_law_630 : decode cL_law 630 = .ok (.aload_n 0, 1) := by decide +kernel
theorem dL_law_631 : decode cL_law 631 = .ok (.iload_n 3, 1) := by decide +kernel
theorem dL_law_632 : decode cL_law 632 = .ok (.iconst 1, 1) := by decide +kernel
theorem dL_law_633 : decode cL_law 633 = .ok (.iadd, 1) := by decide +kernel
theorem dL_law_634 : decode cL_law 634 = .ok (.iaload, 1) := by decide +kernel
theorem dL_law_635 : decode cL_law 635 = .ok (.invokevirtual 94, 3) := by decide +kernel
theorem dL_law_638 : decode cL_law 638 = .ok (.aload_n 2, 1) := by decide +kernel
theorem dL_law_639 : decode cL_law 639 = .ok (.aload_n 0, 1) := by decide +kernel
theorem dL_law_640 : decode cL_law 640 = .ok (.iload_n 3, 1) := by decide +kernel
theorem dL_law_641 : decode cL_law 641 = .ok (.iconst 1, 1) := by decide +kernel
theorem dL_law_642 : decode cL_law 642 = .ok (.iadd, 1) := by decide +kernel
theorem dL_law_643 : decode cL_law 643 = .ok (.iaload, 1) := by decide +kernel
theorem dL_law_644 : decode cL_law 644 = .ok (.invokevirtual 97, 3) := by decide +kernel
theorem dL_law_647 : decode cL_law 647 = .ok (.if_icmp .eq 104, 3) := by decide +kernel
theorem dL_law_650 : decode cL_law 650 = .ok (.iconst 0, 1) := by decide +kernel
theorem dL_law_651 : decode cL_law 651 = .ok (.ireturn, 1) := by decide +kernel
theorem dL_law_652 : decode cL_law 652 = .ok (.aload_n 1, 1) := by decide +kernel
theorem dL_law_653 : decode cL_law 653 = .ok (.invokevirtual 98, 3) := by decide +kernel
theorem dL_law_656 : decode cL_law 656 = .ok (.aload_n 2, 1) := by decide +kernel
theorem dL_law_657 : decode cL_law 657 = .ok (.invokevirtual 101, 3) := by decide +kernel
theorem dL_law_660 : decode cL_law 660 = .ok (.if_icmp .eq 91, 3) := by decide +kernel
theorem dL_law_663 : decode cL_law 663 = .ok (.iconst 0, 1) := by decide +kernel
theorem dL_law_664 : decode cL_law 664 = .ok (.ireturn, 1) := by decide +kernel
theorem dL_law_665 : decode cL_law 665 = .ok (.aload_n 1, 1) := by decide +kernel
theorem dL_law_666 : decode cL_law 666 = .ok (.aload_n 0, 1) := by decide +kernel
theorem dL_law_667 : decode cL_law 667 = .ok (.iload_n 3, 1) := by decide +kernel
theorem dL_law_668 : decode cL_law 668 = .ok (.iconst 1, 1) := by decide +kernel
theorem dL_law_669 : decode cL_law 669 = .ok (.iadd, 1) := by decide +kernel
theorem dL_law_670 : decode cL_law 670 = .ok (.iaload, 1) := by decide +kernel
theorem dL_law_671 : decode cL_law 671 = .ok (.invokevirtual 102, 3) := by decide +kernel
theorem dL_law_674 : decode cL_law 674 = .ok (.aload_n 2, 1) := by decide +kernel
theorem dL_law_675 : decode cL_law 675 = .ok (.aload_n 0, 1) := by decide +kernel
theorem dL_law_676 : decode cL_law 676 = .ok (.iload_n 3, 1) := by decide +kernel
theorem dL_law_677 : decode cL_law 677 = .ok (.iconst 1, 1) := by decide +kernel
theorem dL_law_678 : decode cL_law 678 = .ok (.iadd, 1) := by decide +kernel
theorem dL_law_679 : decode cL_law 679 = .ok (.iaload, 1) := by decide +kernel
theorem dL_law_680 : decode cL_law 680 = .ok (.invokevirtual 105, 3) := by decide +kernel
theorem dL_law_683 : decode cL_law 683 = .ok (.if_icmp .eq 68, 3) := by decide +kernel
theorem dL_law_686 : decode cL_law 686 = .ok (.iconst 0, 1) := by decide +kernel
theorem dL_law_687 : decode cL_law 687 = .ok (.ireturn, 1) := by decide +kernel
theorem dL_law_688 : decode cL_law 688 = .ok (.aload_n 1, 1) := by decide +kernel
theorem dL_law_689 : decode cL_law 689 = .ok (.invokevirtual 106, 3) := by decide +kernel
theorem dL_law_692 : decode cL_law 692 = .ok (.aload_n 2, 1) := by decide +kernel
theorem dL_law_693 : decode cL_law 693 = .ok (.invokevirtual 109, 3) := by decide +kernel
theorem dL_law_696 : decode cL_law 696 = .ok (.if_icmp .eq 55, 3) := by decide +kernel
theorem dL_law_699 : decode cL_law 699 = .ok (.iconst 0, 1) := by decide +kernel
theorem dL_law_700 : decode cL_law 700 = .ok (.ireturn, 1) := by decide +kernel
theorem dL_law_701 : decode cL_law 701 = .ok (.aload_n 1, 1) := by decide +kernel
theorem dL_law_702 : decode cL_law 702 = .ok (.invokevirtual 110, 3) := by decide +kernel
theorem dL_law_705 : decode cL_law 705 = .ok (.aload_n 2, 1) := by decide +kernel
theorem dL_law_706 : decode cL_law 706 = .ok (.invokevirtual 113, 3) := by decide +kernel
theorem dL_law_709 : decode cL_law 709 = .ok (.if_icmp .eq 42, 3) := by decide +kernel
theorem dL_law_712 : decode cL_law 712 = .ok (.iconst 0, 1) := by decide +kernel
theorem dL_law_713 : decode cL_law 713 = .ok (.ireturn, 1) := by decide +kernel
theorem dL_law_714 : decode cL_law 714 = .ok (.aload_n 1, 1) := by decide +kernel
theorem dL_law_715 : decode cL_law 715 = .ok (.aload_n 0, 1) := by decide +kernel
theorem dL_law_716 : decode cL_law 716 = .ok (.iload_n 3, 1) := by decide +kernel
theorem dL_law_717 : decode cL_law 717 = .ok (.iconst 1, 1) := by decide +kernel
theorem dL_law_718 : decode cL_law 718 = .ok (.iadd, 1) := by decide +kernel
theorem dL_law_719 : decode cL_law 719 = .ok (.iaload, 1) := by decide +kernel
theorem dL_law_720 : decode cL_law 720 = .ok (.invokevirtual 114, 3) := by decide +kernel
theorem dL_law_723 : decode cL_law 723 = .ok (.aload_n 2, 1) := by decide +kernel
theorem dL_law_724 : decode cL_law 724 = .ok (.aload_n 0, 1) := by decide +kernel
theorem dL_law_725 : decode cL_law 725 = .ok (.iload_n 3, 1) := by decide +kernel
theorem dL_law_726 : decode cL_law 726 = .ok (.iconst 1, 1) := by decide +kernel
theorem dL_law_727 : decode cL_law 727 = .ok (.iadd, 1) := by decide +kernel
theorem dL_law_728 : decode cL_law 728 = .ok (.iaload, 1) := by decide +kernel
theorem dL_law_729 : decode cL_law 729 = .ok (.invokevirtual 117, 3) := by decide +kernel
theorem dL_law_732 : decode cL_law 732 = .ok (.if_icmp .eq 19, 3) := by decide +kernel
theorem dL_law_735 : decode cL_law 735 = .ok (.iconst 0, 1) := by decide +kernel
theorem dL_law_736 : decode cL_law 736 = .ok (.ireturn, 1) := by decide +kernel
theorem dL_law_737 : decode cL_law 737 = .ok (.aload_n 1, 1) := by decide +kernel
theorem dL_law_738 : decode cL_law 738 = .ok (.invokevirtual 118, 3) := by decide +kernel
theorem dL_law_741 : decode cL_law 741 = .ok (.aload_n 2, 1) := by decide +kernel
theorem dL_law_742 : decode cL_law 742 = .ok (.invokevirtual 122, 3) := by decide +kernel
theorem dL_law_745 : decode cL_law 745 = .ok (.lcmp, 1) := by decide +kernel
theorem dL_law_746 : decode cL_law 746 = .ok (.ifCond .eq 5, 3) := by decide +kernel
theorem dL_law_749 : decode cL_law 749 = .ok (.iconst 0, 1) := by decide +kernel
theorem dL_law_750 : decode cL_law 750 = .ok (.ireturn, 1) := by decide +kernel
theorem dL_law_751 : decode cL_law 751 = .ok (.iinc 3 6, 3) := by decide +kernel
theorem dL_law_754 : decode cL_law 754 = .ok (.goto (-736), 3) := by decide +kernel
theorem dL_law_757 : decode cL_law 757 = .ok (.iconst 1, 1) := by decide +kernel
theorem dL_law_758 : decode cL_law 758 = .ok (.ireturn, 1) := by decide +kernel
