theorem dX3_runs_24 : decode cX3_runs 24 = .ok (.sipush (-10002), 3) := by decide +kernel
theorem dX3_runs_27 : decode cX3_runs 27 = .ok (.invokevirtual 42, 3) := by decide +kernel
theorem dX3_runs_30 : decode cX3_runs 30 = .ok (.ireturn, 1) := by decide +kernel
theorem dX3_totalRuns_0 : decode cX3_totalRuns 0 = .ok (.aload_n 0, 1) := by decide +kernel
theorem dX3_totalRuns_1 : decode cX3_totalRuns 1 = .ok (.getfield 12, 3) := by decide +kernel
theorem dX3_totalRuns_4 : decode cX3_totalRuns 4 = .ok (.getfield 127, 3) := by decide +kernel
theorem dX3_totalRuns_7 : decode cX3_totalRuns 7 = .ok (.ireturn, 1) := by decide +kernel
theorem dX3_dependencies_0 : decode cX3_dependencies 0 = .ok (.aload_n 0, 1) := by decide +kernel
theorem dX3_dependencies_1 : decode cX3_dependencies 1 = .ok (.iload_n 1, 1) := by decide +kernel
theorem dX3_dependencies_2 : decode cX3_dependencies 2 = .ok (.invokevirtual 59, 3) := by decide +kernel
theorem dX3_dependencies_5 : decode cX3_dependencies 5 = .ok (.ifCond .eq 15, 3) := by decide +kernel
theorem dX3_dependencies_8 : decode cX3_dependencies 8 = .ok (.aload_n 0, 1) := by decide +kernel
theorem dX3_dependencies_9 : decode cX3_dependencies 9 = .ok (.getfield 31, 3) := by decide +kernel
theorem dX3_dependencies_12 : decode cX3_dependencies 12 = .ok (.getfield 130, 3) := by decide +kernel
theorem dX3_dependencies_15 : decode cX3_dependencies 15 = .ok (.iload_n 1, 1) := by decide +kernel
theorem dX3_dependencies_16 : decode cX3_dependencies 16 = .ok (.iaload, 1) := by decide +kernel
theorem dX3_dependencies_17 : decode cX3_dependencies 17 = .ok (.goto 10, 3) := by decide +kernel
theorem dX3_dependencies_20 : decode cX3_dependencies 20 = .ok (.aload_n 0, 1) := by decide +kernel
theorem dX3_dependencies_21 : decode cX3_dependencies 21 = .ok (.sipush (-10002), 3) := by decide +kernel
theorem dX3_dependencies_24 : decode cX3_dependencies 24 = .ok (.invokevirtual 42, 3) := by decide +kernel
theorem dX3_dependencies_27 : decode cX3_dependencies 27 = .ok (.ireturn, 1) := by decide +kernel
theorem dX3_dependents_0 : decode cX3_dependents 0 = .ok (.aload_n 0, 1) := by decide +kernel
theorem dX3_dependents_1 : decode cX3_dependents 1 = .ok (.iload_n 1, 1) := by decide +kernel
theorem dX3_dependents_2 : decode cX3_dependents 2 = .ok (.invokevirtual 59, 3) := by decide +kernel
theorem dX3_dependents_5 : decode cX3_dependents 5 = .ok (.ifCond .eq 11, 3) := by decide +kernel
theorem dX3_dependents_8 : decode cX3_dependents 8 = .ok (.aload_n 0, 1) := by decide +kernel
theorem dX3_dependents_9 : decode cX3_dependents 9 = .ok (.iload_n 1, 1) := by decide +kernel
theorem dX3_dependents_10 : decode cX3_dependents 10 = .ok (.invokevirtual 133, 3) := by decide +kernel
theorem dX3_dependents_13 : decode cX3_dependents 13 = .ok (.goto 10, 3) := by decide +kernel
theorem dX3_dependents_16 : decode cX3_dependents 16 = .ok (.aload_n 0, 1) := by decide +kernel
theorem dX3_dependents_17 : decode cX3_dependents 17 = .ok (.sipush (-10002), 3) := by decide +kernel
theorem dX3_dependents_20 : decode cX3_dependents 20 = .ok (.invokevirtual 42, 3) := by decide +kernel
theorem dX3_dependents_23 : decode cX3_dependents 23 = .ok (.ireturn, 1) := by decide +kernel
theorem dX3_definers_0 : decode cX3_definers 0 = .ok (.iload_n 1, 1) := by decide +kernel
theorem dX3_definers_1 : decode cX3_definers 1 = .ok (.invokestatic 115, 3) := by decide +kernel
theorem dX3_definers_4 : decode cX3_definers 4 = .ok (.ifCond .eq 15, 3) := by decide +kernel
theorem dX3_definers_7 : decode cX3_definers 7 = .ok (.aload_n 0, 1) := by decide +kernel
theorem dX3_definers_8 : decode cX3_definers 8 = .ok (.getfield 31, 3) := by decide +kernel
theorem dX3_definers_11 : decode cX3_definers 11 = .ok (.getfield 136, 3) := by decide +kernel
theorem dX3_definers_14 : decode cX3_definers 14 = .ok (.iload_n 1, 1) := by decide +kernel
theorem dX3_definers_15 : decode cX3_definers 15 = .ok (.iaload, 1) := by decide +kernel
theorem dX3_definers_16 : decode cX3_definers 16 = .ok (.goto 10, 3) := by decide +kernel
theorem dX3_definers_19 : decode cX3_definers 19 = .ok (.aload_n 0, 1) := by decide +kernel
theorem dX3_definers_20 : decode cX3_definers 20 = .ok (.sipush (-10002), 3) := by decide +kernel
theorem dX3_definers_23 : decode cX3_definers 23 = .ok (.invokevirtual 42, 3) := by decide +kernel
theorem dX3_definers_26 : decode cX3_definers 26 = .ok (.ireturn, 1) := by decide +kernel
theorem dX3_runnableCount_0 : decode cX3_runnableCount 0 = .ok (.aload_n 0, 1) := by decide +kernel
theorem dX3_runnableCount_1 : decode cX3_runnableCount 1 = .ok (.getfield 31, 3) := by decide +kernel
theorem dX3_runnableCount_4 : decode cX3_runnableCount 4 = .ok (.getfield 139, 3) := by decide +kernel
theorem dX3_runnableCount_7 : decode cX3_runnableCount 7 = .ok (.ireturn, 1) := by decide +kernel
theorem dX3_runOrder_0 : decode cX3_runOrder 0 = .ok (.iload_n 1, 1) := by decide +kernel
theorem dX3_runOrder_1 : decode cX3_runOrder 1 = .ok (.ifCond .ge 11, 3) := by decide +kernel
theorem dX3_runOrder_4 : decode cX3_runOrder 4 = .ok (.aload_n 0, 1) := by decide +kernel
theorem dX3_runOrder_5 : decode cX3_runOrder 5 = .ok (.sipush (-10002), 3) := by decide +kernel
theorem dX3_runOrder_8 : decode cX3_runOrder 8 = .ok (.invokevirtual 42, 3) := by decide +kernel
theorem dX3_runOrder_11 : decode cX3_runOrder 11 = .ok (.ireturn, 1) := by decide +kernel
theorem dX3_runOrder_12 : decode cX3_runOrder 12 = .ok (.iload_n 1, 1) := by decide +kernel
theorem dX3_runOrder_13 : decode cX3_runOrder 13 = .ok (.aload_n 0, 1) := by decide +kernel
theorem dX3_runOrder_14 : decode cX3_runOrder 14 = .ok (.getfield 31, 3) := by decide +kernel
theorem dX3_runOrder_17 : decode cX3_runOrder 17 = .ok (.getfield 139, 3) := by decide +kernel
theorem dX3_runOrder_20 : decode cX3_runOrder 20 = .ok (.if_icmp .ge 15, 3) := by decide +kernel
theorem dX3_runOrder_23 : decode cX3_runOrder 23 = .ok (.aload_n 0, 1) := by decide +kernel
theorem dX3_runOrder_24 : decode cX3_runOrder 24 = .ok (.getfield 31, 3) := by decide +kernel
theorem dX3_runOrder_27 : decode cX3_runOrder 27 = .ok (.getfield 142, 3) := by decide +kernel
theorem dX3_runOrder_30 : decode cX3_runOrder 30 = .ok (.iload_n 1, 1) := by decide +kernel
theorem dX3_runOrder_31 : decode cX3_runOrder 31 = .ok (.iaload, 1) := by decide +kernel
theorem dX3_runOrder_32 : decode cX3_runOrder 32 = .ok (.goto 6, 3) := by decide +kernel
theorem dX3_runOrder_35 : decode cX3_runOrder 35 = .ok (.sipush (-10001), 3) := by decide +kernel
theorem dX3_runOrder_38 : decode cX3_runOrder 38 = .ok (.ireturn, 1) := by decide +kernel
theorem dX3_staleCount_0 : decode cX3_staleCount 0 = .ok (.aload_n 0, 1) := by decide +kernel
theorem dX3_staleCount_1 : decode cX3_staleCount 1 = .ok (.getfield 31, 3) := by decide +kernel
theorem dX3_staleCount_4 : decode cX3_staleCount 4 = .ok (.getfield 139, 3) := by decide +kernel
theorem dX3_staleCount_7 : decode cX3_staleCount 7 = .ok (.aload_n 0, 1) := by decide +kernel
theorem dX3_staleCount_8 : decode cX3_staleCount 8 = .ok (.getfield 35, 3) := by decide +kernel
theorem dX3_staleCount_11 : decode cX3_staleCount 11 = .ok (.invokestatic 145, 3) := by decide +kernel
theorem dX3_staleCount_14 : decode cX3_staleCount 14 = .ok (.isub, 1) := by decide +kernel
theorem dX3_staleCount_15 : decode cX3_staleCount 15 = .ok (.ireturn, 1) := by decide +kernel
theorem dX3_undo_0 : decode cX3_undo 0 = .ok (.aload_n 0, 1) := by decide +kernel
theorem dX3_undo_1 : decode cX3_undo 1 = .ok (.getfield 20, 3) := by decide +kernel
theorem dX3_undo_4 : decode cX3_undo 4 = .ok (.ifCond .gt 11, 3) := by decide +kernel
theorem dX3_undo_7 : decode cX3_undo 7 = .ok (.aload_n 0, 1) := by decide +kernel
theorem dX3_undo_8 : decode cX3_undo 8 = .ok (.sipush (-10003), 3) := by decide +kernel
theorem dX3_undo_11 : decode cX3_undo 11 = .ok (.invokevirtual 42, 3) := by decide +kernel
theorem dX3_undo_14 : decode cX3_undo 14 = .ok (.ireturn, 1) := by decide +kernel
theorem dX3_undo_15 : decode cX3_undo 15 = .ok (.aload_n 0, 1) := by decide +kernel
theorem dX3_undo_16 : decode cX3_undo 16 = .ok (.dup, 1) := by decide +kernel
theorem dX3_undo_17 : decode cX3_undo 17 = .ok (.getfield 20, 3) := by decide +kernel
theorem dX3_undo_20 : decode cX3_undo 20 = .ok (.iconst 1, 1) := by decide +kernel
theorem dX3_undo_21 : decode cX3_undo 21 = .ok (.isub, 1) := by decide +kernel
theorem dX3_undo_22 : decode cX3_undo 22 = .ok (.putfield 20, 3) := by decide +kernel
theorem dX3_undo_25 : decode cX3_undo 25 = .ok (.aload_n 0, 1) := by decide +kernel
theorem dX3_undo_26 : decode cX3_undo 26 = .ok (.getfield 12, 3) := by decide +kernel
theorem dX3_undo_29 : decode cX3_undo 29 = .ok (.aload_n 0, 1) := by decide +kernel
theorem dX3_undo_30 : decode cX3_undo 30 = .ok (.getfield 16, 3) := by decide +kernel
theorem dX3_undo_33 : decode cX3_undo 33 = .ok (.aload_n 0, 1) := by decide +kernel
theorem dX3_undo_34 : decode cX3_undo 34 = .ok (.getfield 20, 3) := by decide +kernel
theorem dX3_undo_37 : decode cX3_undo 37 = .ok (.aaload, 1) := by decide +kernel
theorem dX3_undo_38 : decode cX3_undo 38 = .ok (.invokevirtual 150, 3) := by decide +kernel
theorem dX3_undo_41 : decode cX3_undo 41 = .ok (.aload_n 0, 1) := by decide +kernel
theorem dX3_undo_42 : decode cX3_undo 42 = .ok (.getfield 31, 3) := by decide +kernel
theorem dX3_undo_45 : decode cX3_undo 45 = .ok (.aload_n 0, 1) := by decide +kernel
theorem dX3_undo_46 : decode cX3_undo 46 = .ok (.getfield 12, 3) := by decide +kernel
theorem dX3_undo_49 : decode cX3_undo 49 = .ok (.invokevirtual 154, 3) := by decide +kernel
theorem dX3_undo_52 : decode cX3_undo 52 = .ok (.aload_n 0, 1) := by decide +kernel
theorem dX3_undo_53 : decode cX3_undo 53 = .ok (.iconst 0, 1) := by decide +kernel
theorem dX3_undo_54 : decode cX3_undo 54 = .ok (.invokevirtual 94, 3) := by decide +kernel
theorem dX3_undo_57 : decode cX3_undo 57 = .ok (.aload_n 0, 1) := by decide +kernel
theorem dX3_undo_58 : decode cX3_undo 58 = .ok (.getfield 20, 3) := by decide +kernel
theorem dX3_undo_61 : decode cX3_undo 61 = .ok (.ireturn, 1) := by decide +kernel
theorem dX3_errorCount_0 : decode cX3_errorCount 0 = .ok (.iload_n 1, 1) := by decide +kernel
theorem dX3_errorCount_1 : decode cX3_errorCount 1 = .ok (.ifCond .lt 17, 3) := by decide +kernel
theorem dX3_errorCount_4 : decode cX3_errorCount 4 = .ok (.iload_n 1, 1) := by decide +kernel
theorem dX3_errorCount_5 : decode cX3_errorCount 5 = .ok (.iconst 3, 1) := by decide +kernel
theorem dX3_errorCount_6 : decode cX3_errorCount 6 = .ok (.if_icmp .ge 12, 3) := by decide +kernel
theorem dX3_errorCount_9 : decode cX3_errorCount 9 = .ok (.aload_n 0, 1) := by decide +kernel
theorem dX3_errorCount_10 : decode cX3_errorCount 10 = .ok (.getfield 24, 3) := by decide +kernel
theorem dX3_errorCount_13 : decode cX3_errorCount 13 = .ok (.iload_n 1, 1) := by decide +kernel
theorem dX3_errorCount_14 : decode cX3_errorCount 14 = .ok (.iaload, 1) := by decide +kernel
theorem dX3_errorCount_15 : decode cX3_errorCount 15 = .ok (.goto 10, 3) := by decide +kernel
theorem dX3_errorCount_18 : decode cX3_errorCount 18 = .ok (.aload_n 0, 1) := by decide +kernel
theorem dX3_errorCount_19 : decode cX3_errorCount 19 = .ok (.sipush (-10002), 3) := by decide +kernel
theorem dX3_errorCount_22 : decode cX3_errorCount 22 = .ok (.invokevirtual 42, 3) := by decide +kernel
theorem dX3_errorCount_25 : decode cX3_errorCount 25 = .ok (.ireturn, 1) := by decide +kernel
theorem dX3_digest_0 : decode cX3_digest 0 = .ok (.ldc2_w 157, 3) := by decide +kernel
theorem dX3_digest_3 : decode cX3_digest 3 = .ok (.lstore_n 1, 1) := by decide +kernel
theorem dX3_digest_4 : decode cX3_digest 4 = .ok (.iconst 0, 1) := by decide +kernel
theorem dX3_digest_5 : decode cX3_digest 5 = .ok (.istore_n 3, 1) := by decide +kernel
theorem dX3_digest_6 : decode cX3_digest 6 = .ok (.iload_n 3, 1) := by decide +kernel
theorem dX3_digest_7 : decode cX3_digest 7 = .ok (.iconst 3, 1) := by decide +kernel
theorem dX3_digest_8 : decode cX3_digest 8 = .ok (.if_icmp .ge 21, 3) := by decide +kernel
theorem dX3_digest_11 : decode cX3_digest 11 = .ok (.lload_n 1, 1) := by decide +kernel
theorem dX3_digest_12 : decode cX3_digest 12 = .ok (.aload_n 0, 1) := by decide +kernel
theorem dX3_digest_13 : decode cX3_digest 13 = .ok (.getfield 24, 3) := by decide +kernel
theorem dX3_digest_16 : decode cX3_digest 16 = .ok (.iload_n 3, 1) := by decide +kernel
theorem dX3_digest_17 : decode cX3_digest 17 = .ok (.iaload, 1) := by decide +kernel
theorem dX3_digest_18 : decode cX3_digest 18 = .ok (.i2l, 1) := by decide +kernel
theorem dX3_digest_19 : decode cX3_digest 19 = .ok (.invokestatic 159, 3) := by decide +kernel
theorem dX3_digest_22 : decode cX3_digest 22 = .ok (.lstore_n 1, 1) := by decide +kernel
theorem dX3_digest_23 : decode cX3_digest 23 = .ok (.iinc 3 1, 3) := by decide +kernel
theorem dX3_digest_26 : decode cX3_digest 26 = .ok (.goto (-20), 3) := by decide +kernel
theorem dX3_digest_29 : decode cX3_digest 29 = .ok (.lload_n 1, 1) := by decide +kernel
theorem dX3_digest_30 : decode cX3_digest 30 = .ok (.aload_n 0, 1) := by decide +kernel
theorem dX3_digest_31 : decode cX3_digest 31 = .ok (.getfield 20, 3) := by decide +kernel
theorem dX3_digest_34 : decode cX3_digest 34 = .ok (.i2l, 1) := by decide +kernel
theorem dX3_digest_35 : decode cX3_digest 35 = .ok (.invokestatic 159, 3) := by decide +kernel
theorem dX3_digest_38 : decode cX3_digest 38 = .ok (.lstore_n 1, 1) := by decide +kernel
theorem dX3_digest_39 : decode cX3_digest 39 = .ok (.lload_n 1, 1) := by decide +kernel
theorem dX3_digest_40 : decode cX3_digest 40 = .ok (.aload_n 0, 1) := by decide +kernel
theorem dX3_digest_41 : decode cX3_digest 41 = .ok (.getfield 12, 3) := by decide +kernel
theorem dX3_digest_44 : decode cX3_digest 44 = .ok (.getfield 88, 3) := by decide +kernel
theorem dX3_digest_47 : decode cX3_digest 47 = .ok (.i2l, 1) := by decide +kernel
theorem dX3_digest_48 : decode cX3_digest 48 = .ok (.invokestatic 159, 3) := by decide +kernel
theorem dX3_digest_51 : decode cX3_digest 51 = .ok (.lstore_n 1, 1) := by decide +kernel
theorem dX3_digest_52 : decode cX3_digest 52 = .ok (.lload_n 1, 1) := by decide +kernel
theorem dX3_digest_53 : decode cX3_digest 53 = .ok (.aload_n 0, 1) := by decide +kernel
theorem dX3_digest_54 : decode cX3_digest 54 = .ok (.getfield 12, 3) := by decide +kernel
theorem dX3_digest_57 : decode cX3_digest 57 = .ok (.getfield 127, 3) := by decide +kernel
theorem dX3_digest_60 : decode cX3_digest 60 = .ok (.i2l, 1) := by decide +kernel
theorem dX3_digest_61 : decode cX3_digest 61 = .ok (.invokestatic 159, 3) := by decide +kernel
theorem dX3_digest_64 : decode cX3_digest 64 = .ok (.lstore_n 1, 1) := by decide +kernel
theorem dX3_digest_65 : decode cX3_digest 65 = .ok (.lload_n 1, 1) := by decide +kernel
theorem dX3_digest_66 : decode cX3_digest 66 = .ok (.aload_n 0, 1) := by decide +kernel
theorem dX3_digest_67 : decode cX3_digest 67 = .ok (.getfield 12, 3) := by decide +kernel
theorem dX3_digest_70 : decode cX3_digest 70 = .ok (.getfield 97, 3) := by decide +kernel
theorem dX3_digest_73 : decode cX3_digest 73 = .ok (.i2l, 1) := by decide +kernel
theorem dX3_digest_74 : decode cX3_digest 74 = .ok (.invokestatic 159, 3) := by decide +kernel
theorem dX3_digest_77 : decode cX3_digest 77 = .ok (.lstore_n 1, 1) := by decide +kernel
theorem dX3_digest_78 : decode cX3_digest 78 = .ok (.iconst 0, 1) := by decide +kernel
theorem dX3_digest_79 : decode cX3_digest 79 = .ok (.istore_n 3, 1) := by decide +kernel
theorem dX3_digest_80 : decode cX3_digest 80 = .ok (.iload_n 3, 1) := by decide +kernel
theorem dX3_digest_81 : decode cX3_digest 81 = .ok (.aload_n 0, 1) := by decide +kernel
theorem dX3_digest_82 : decode cX3_digest 82 = .ok (.getfield 12, 3) := by decide +kernel
theorem dX3_digest_85 : decode cX3_digest 85 = .ok (.getfield 97, 3) := by decide +kernel
theorem dX3_digest_88 : decode cX3_digest 88 = .ok (.if_icmp .ge 24, 3) := by decide +kernel
theorem dX3_digest_91 : decode cX3_digest 91 = .ok (.lload_n 1, 1) := by decide +kernel
theorem dX3_digest_92 : decode cX3_digest 92 = .ok (.aload_n 0, 1) := by decide +kernel
theorem dX3_digest_93 : decode cX3_digest 93 = .ok (.getfield 12, 3) := by decide +kernel
theorem dX3_digest_96 : decode cX3_digest 96 = .ok (.getfield 106, 3) := by decide +kernel
theorem dX3_digest_99 : decode cX3_digest 99 = .ok (.iload_n 3, 1) := by decide +kernel
theorem dX3_digest_100 : decode cX3_digest 100 = .ok (.iaload, 1) := by decide +kernel
theorem dX3_digest_101 : decode cX3_digest 101 = .ok (.i2l, 1) := by decide +kernel
theorem dX3_digest_102 : decode cX3_digest 102 = .ok (.invokestatic 159, 3) := by decide +kernel
theorem dX3_digest_105 : decode cX3_digest 105 = .ok (.lstore_n 1, 1) := by decide +kernel
theorem dX3_digest_106 : decode cX3_digest 106 = .ok (.iinc 3 1, 3) := by decide +kernel
theorem dX3_digest_109 : decode cX3_digest 109 = .ok (.goto (-29), 3) := by decide +kernel
theorem dX3_digest_112 : decode cX3_digest 112 = .ok (.lload_n 1, 1) := by decide +kernel
theorem dX3_digest_113 : decode cX3_digest 113 = .ok (.aload_n 0, 1) := by decide +kernel
theorem dX3_digest_114 : decode cX3_digest 114 = .ok (.getfield 12, 3) := by decide +kernel
theorem dX3_digest_117 : decode cX3_digest 117 = .ok (.getfield 46, 3) := by decide +kernel
theorem dX3_digest_120 : decode cX3_digest 120 = .ok (.i2l, 1) := by decide +kernel
theorem dX3_digest_121 : decode cX3_digest 121 = .ok (.invokestatic 159, 3) := by decide +kernel
theorem dX3_digest_124 : decode cX3_digest 124 = .ok (.lstore_n 1, 1) := by decide +kernel
theorem dX3_digest_125 : decode cX3_digest 125 = .ok (.iconst 0, 1) := by decide +kernel
theorem dX3_digest_126 : decode cX3_digest 126 = .ok (.istore_n 3, 1) := by decide +kernel
theorem dX3_digest_127 : decode cX3_digest 127 = .ok (.iload_n 3, 1) := by decide +kernel
theorem dX3_digest_128 : decode cX3_digest 128 = .ok (.aload_n 0, 1) := by decide +kernel
theorem dX3_digest_129 : decode cX3_digest 129 = .ok (.getfield 12, 3) := by decide +kernel
theorem dX3_digest_132 : decode cX3_digest 132 = .ok (.getfield 46, 3) := by decide +kernel
theorem dX3_digest_135 : decode cX3_digest 135 = .ok (.if_icmp .ge 16, 3) := by decide +kernel
theorem dX3_digest_138 : decode cX3_digest 138 = .ok (.aload_n 0, 1) := by decide +kernel
theorem dX3_digest_139 : decode cX3_digest 139 = .ok (.lload_n 1, 1) := by decide +kernel
theorem dX3_digest_140 : decode cX3_digest 140 = .ok (.iload_n 3, 1) := by decide +kernel
theorem dX3_digest_141 : decode cX3_digest 141 = .ok (.invokevirtual 163, 3) := by decide +kernel
theorem dX3_digest_144 : decode cX3_digest 144 = .ok (.lstore_n 1, 1) := by decide +kernel
theorem dX3_digest_145 : decode cX3_digest 145 = .ok (.iinc 3 1, 3) := by decide +kernel
theorem dX3_digest_148 : decode cX3_digest 148 = .ok (.goto (-21), 3) := by decide +kernel
theorem dX3_digest_151 : decode cX3_digest 151 = .ok (.lload_n 1, 1) := by decide +kernel
theorem dX3_digest_152 : decode cX3_digest 152 = .ok (.aload_n 0, 1) := by decide +kernel
theorem dX3_digest_153 : decode cX3_digest 153 = .ok (.getfield 31, 3) := by decide +kernel
theorem dX3_digest_156 : decode cX3_digest 156 = .ok (.getfield 139, 3) := by decide +kernel
theorem dX3_digest_159 : decode cX3_digest 159 = .ok (.i2l, 1) := by decide +kernel
theorem dX3_digest_160 : decode cX3_digest 160 = .ok (.invokestatic 159, 3) := by decide +kernel
theorem dX3_digest_163 : decode cX3_digest 163 = .ok (.lstore_n 1, 1) := by decide +kernel
theorem dX3_digest_164 : decode cX3_digest 164 = .ok (.iconst 0, 1) := by decide +kernel
theorem dX3_digest_165 : decode cX3_digest 165 = .ok (.istore_n 3, 1) := by decide +kernel
theorem dX3_digest_166 : decode cX3_digest 166 = .ok (.iload_n 3, 1) := by decide +kernel
theorem dX3_digest_167 : decode cX3_digest 167 = .ok (.aload_n 0, 1) := by decide +kernel
theorem dX3_digest_168 : decode cX3_digest 168 = .ok (.getfield 31, 3) := by decide +kernel
theorem dX3_digest_171 : decode cX3_digest 171 = .ok (.getfield 139, 3) := by decide +kernel
theorem dX3_digest_174 : decode cX3_digest 174 = .ok (.if_icmp .ge 24, 3) := by decide +kernel
theorem dX3_digest_177 : decode cX3_digest 177 = .ok (.lload_n 1, 1) := by decide +kernel
theorem dX3_digest_178 : decode cX3_digest 178 = .ok (.aload_n 0, 1) := by decide +kernel
theorem dX3_digest_179 : decode cX3_digest 179 = .ok (.getfield 31, 3) := by decide +kernel
theorem dX3_digest_182 : decode cX3_digest 182 = .ok (.getfield 142, 3) := by decide +kernel
theorem dX3_digest_185 : decode cX3_digest 185 = .ok (.iload_n 3, 1) := by decide +kernel
theorem dX3_digest_186 : decode cX3_digest 186 = .ok (.iaload, 1) := by decide +kernel
theorem dX3_digest_187 : decode cX3_digest 187 = .ok (.i2l, 1) := by decide +kernel
theorem dX3_digest_188 : decode cX3_digest 188 = .ok (.invokestatic 159, 3) := by decide +kernel
theorem dX3_digest_191 : decode cX3_digest 191 = .ok (.lstore_n 1, 1) := by decide +kernel
theorem dX3_digest_192 : decode cX3_digest 192 = .ok (.iinc 3 1, 3) := by decide +kernel
theorem dX3_digest_195 : decode cX3_digest 195 = .ok (.goto (-29), 3) := by decide +kernel
theorem dX3_digest_198 : decode cX3_digest 198 = .ok (.lload_n 1, 1) := by decide +kernel
theorem dX3_digest_199 : decode cX3_digest 199 = .ok (.lreturn, 1) := by decide +kernel
theorem dX3_mixCell_0 : decode cX3_mixCell 0 = .ok (.aload_n 0, 1) := by decide +kernel
theorem dX3_mixCell_1 : decode cX3_mixCell 1 = .ok (.getfield 12, 3) := by decide +kernel
theorem dX3_mixCell_4 : decode cX3_mixCell 4 = .ok (.getfield 63, 3) := by decide +kernel
theorem dX3_mixCell_7 : decode cX3_mixCell 7 = .ok (.iload_n 3, 1) := by decide +kernel
theorem dX3_mixCell_8 : decode cX3_mixCell 8 = .ok (.aaload, 1) := by decide +kernel
theorem dX3_mixCell_9 : decode cX3_mixCell 9 = .ok (.astore 4, 2) := by decide +kernel
theorem dX3_mixCell_11 : decode cX3_mixCell 11 = .ok (.lload_n 1, 1) := by decide +kernel
theorem dX3_mixCell_12 : decode cX3_mixCell 12 = .ok (.aload 4, 2) := by decide +kernel
theorem dX3_mixCell_14 : decode cX3_mixCell 14 = .ok (.getfield 67, 3) := by decide +kernel
theorem dX3_mixCell_17 : decode cX3_mixCell 17 = .ok (.i2l, 1) := by decide +kernel
theorem dX3_mixCell_18 : decode cX3_mixCell 18 = .ok (.invokestatic 159, 3) := by decide +kernel
theorem dX3_mixCell_21 : decode cX3_mixCell 21 = .ok (.lstore 5, 2) := by decide +kernel
theorem dX3_mixCell_23 : decode cX3_mixCell 23 = .ok (.lload 5, 2) := by decide +kernel
theorem dX3_mixCell_25 : decode cX3_mixCell 25 = .ok (.aload 4, 2) := by decide +kernel
theorem dX3_mixCell_27 : decode cX3_mixCell 27 = .ok (.getfield 167, 3) := by decide +kernel
theorem dX3_mixCell_30 : decode cX3_mixCell 30 = .ok (.i2l, 1) := by decide +kernel
theorem dX3_mixCell_31 : decode cX3_mixCell 31 = .ok (.invokestatic 159, 3) := by decide +kernel
theorem dX3_mixCell_34 : decode cX3_mixCell 34 = .ok (.lstore 5, 2) := by decide +kernel
theorem dX3_mixCell_36 : decode cX3_mixCell 36 = .ok (.lload 5, 2) := by decide +kernel
theorem dX3_mixCell_38 : decode cX3_mixCell 38 = .ok (.aload 4, 2) := by decide +kernel
theorem dX3_mixCell_40 : decode cX3_mixCell 40 = .ok (.getfield 170, 3) := by decide +kernel
theorem dX3_mixCell_43 : decode cX3_mixCell 43 = .ok (.i2l, 1) := by decide +kernel
theorem dX3_mixCell_44 : decode cX3_mixCell 44 = .ok (.invokestatic 159, 3) := by decide +kernel
theorem dX3_mixCell_47 : decode cX3_mixCell 47 = .ok (.lstore 5, 2) := by decide +kernel
theorem dX3_mixCell_49 : decode cX3_mixCell 49 = .ok (.lload 5, 2) := by decide +kernel
theorem dX3_mixCell_51 : decode cX3_mixCell 51 = .ok (.aload 4, 2) := by decide +kernel
theorem dX3_mixCell_53 : decode cX3_mixCell 53 = .ok (.getfield 173, 3) := by decide +kernel
theorem dX3_mixCell_56 : decode cX3_mixCell 56 = .ok (.i2l, 1) := by decide +kernel
theorem dX3_mixCell_57 : decode cX3_mixCell 57 = .ok (.invokestatic 159, 3) := by decide +kernel
theorem dX3_mixCell_60 : decode cX3_mixCell 60 = .ok (.lstore 5, 2) := by decide +kernel
theorem dX3_mixCell_62 : decode cX3_mixCell 62 = .ok (.lload 5, 2) := by decide +kernel
theorem dX3_mixCell_64 : decode cX3_mixCell 64 = .ok (.aload_n 0, 1) := by decide +kernel
theorem dX3_mixCell_65 : decode cX3_mixCell 65 = .ok (.iload_n 3, 1) := by decide +kernel
theorem dX3_mixCell_66 : decode cX3_mixCell 66 = .ok (.invokevirtual 109, 3) := by decide +kernel
theorem dX3_mixCell_69 : decode cX3_mixCell 69 = .ok (.i2l, 1) := by decide +kernel
theorem dX3_mixCell_70 : decode cX3_mixCell 70 = .ok (.invokestatic 159, 3) := by decide +kernel
theorem dX3_mixCell_73 : decode cX3_mixCell 73 = .ok (.lstore 5, 2) := by decide +kernel
theorem dX3_mixCell_75 : decode cX3_mixCell 75 = .ok (.lload 5, 2) := by decide +kernel
theorem dX3_mixCell_77 : decode cX3_mixCell 77 = .ok (.aload_n 0, 1) := by decide +kernel
theorem dX3_mixCell_78 : decode cX3_mixCell 78 = .ok (.iload_n 3, 1) := by decide +kernel
theorem dX3_mixCell_79 : decode cX3_mixCell 79 = .ok (.invokevirtual 112, 3) := by decide +kernel
theorem dX3_mixCell_82 : decode cX3_mixCell 82 = .ok (.i2l, 1) := by decide +kernel
theorem dX3_mixCell_83 : decode cX3_mixCell 83 = .ok (.invokestatic 159, 3) := by decide +kernel
theorem dX3_mixCell_86 : decode cX3_mixCell 86 = .ok (.lstore 5, 2) := by decide +kernel
theorem dX3_mixCell_88 : decode cX3_mixCell 88 = .ok (.lload 5, 2) := by decide +kernel
theorem dX3_mixCell_90 : decode cX3_mixCell 90 = .ok (.aload 4, 2) := by decide +kernel
theorem dX3_mixCell_92 : decode cX3_mixCell 92 = .ok (.getfield 121, 3) := by decide +kernel
theorem dX3_mixCell_95 : decode cX3_mixCell 95 = .ok (.i2l, 1) := by decide +kernel
theorem dX3_mixCell_96 : decode cX3_mixCell 96 = .ok (.invokestatic 159, 3) := by decide +kernel
theorem dX3_mixCell_99 : decode cX3_mixCell 99 = .ok (.lstore 5, 2) := by decide +kernel
theorem dX3_mixCell_101 : decode cX3_mixCell 101 = .ok (.lload 5, 2) := by decide +kernel
theorem dX3_mixCell_103 : decode cX3_mixCell 103 = .ok (.aload 4, 2) := by decide +kernel
theorem dX3_mixCell_105 : decode cX3_mixCell 105 = .ok (.getfield 124, 3) := by decide +kernel
theorem dX3_mixCell_108 : decode cX3_mixCell 108 = .ok (.i2l, 1) := by decide +kernel
theorem dX3_mixCell_109 : decode cX3_mixCell 109 = .ok (.invokestatic 159, 3) := by decide +kernel
theorem dX3_mixCell_112 : decode cX3_mixCell 112 = .ok (.lstore 5, 2) := by decide +kernel
theorem dX3_mixCell_114 : decode cX3_mixCell 114 = .ok (.lload 5, 2) := by decide +kernel
theorem dX3_mixCell_116 : decode cX3_mixCell 116 = .ok (.aload_n 0, 1) := by decide +kernel
theorem dX3_mixCell_117 : decode cX3_mixCell 117 = .ok (.getfield 31, 3) := by decide +kernel
theorem dX3_mixCell_120 : decode cX3_mixCell 120 = .ok (.getfield 130, 3) := by decide +kernel
theorem dX3_mixCell_123 : decode cX3_mixCell 123 = .ok (.iload_n 3, 1) := by decide +kernel
theorem dX3_mixCell_124 : decode cX3_mixCell 124 = .ok (.iaload, 1) := by decide +kernel
theorem dX3_mixCell_125 : decode cX3_mixCell 125 = .ok (.i2l, 1) := by decide +kernel
theorem dX3_mixCell_126 : decode cX3_mixCell 126 = .ok (.invokestatic 159, 3) := by decide +kernel
theorem dX3_mixCell_129 : decode cX3_mixCell 129 = .ok (.lstore 5, 2) := by decide +kernel
theorem dX3_mixCell_131 : decode cX3_mixCell 131 = .ok (.lload 5, 2) := by decide +kernel
theorem dX3_mixCell_133 : decode cX3_mixCell 133 = .ok (.aload_n 0, 1) := by decide +kernel
theorem dX3_mixCell_134 : decode cX3_mixCell 134 = .ok (.iload_n 3, 1) := by decide +kernel
theorem dX3_mixCell_135 : decode cX3_mixCell 135 = .ok (.invokevirtual 133, 3) := by decide +kernel
theorem dX3_mixCell_138 : decode cX3_mixCell 138 = .ok (.i2l, 1) := by decide +kernel
theorem dX3_mixCell_139 : decode cX3_mixCell 139 = .ok (.invokestatic 159, 3) := by decide +kernel
theorem dX3_mixCell_142 : decode cX3_mixCell 142 = .ok (.lreturn, 1) := by decide +kernel
theorem dX3_mix_0 : decode cX3_mix 0 = .ok (.ldc2_w 176, 3) := by decide +kernel
theorem dX3_mix_3 : decode cX3_mix 3 = .ok (.lload_n 0, 1) := by decide +kernel
theorem dX3_mix_4 : decode cX3_mix 4 = .ok (.lmul, 1) := by decide +kernel
theorem dX3_mix_5 : decode cX3_mix 5 = .ok (.lload_n 2, 1) := by decide +kernel
theorem dX3_mix_6 : decode cX3_mix 6 = .ok (.ladd, 1) := by decide +kernel
theorem dX3_mix_7 : decode cX3_mix 7 = .ok (.lreturn, 1) := by decide +kernel
theorem dX3_isCell_0 : decode cX3_isCell 0 = .ok (.iload_n 1, 1) := by decide +kernel
theorem dX3_isCell_1 : decode cX3_isCell 1 = .ok (.ifCond .lt 18, 3) := by decide +kernel
theorem dX3_isCell_4 : decode cX3_isCell 4 = .ok (.iload_n 1, 1) := by decide +kernel
theorem dX3_isCell_5 : decode cX3_isCell 5 = .ok (.aload_n 0, 1) := by decide +kernel
theorem dX3_isCell_6 : decode cX3_isCell 6 = .ok (.getfield 12, 3) := by decide +kernel
theorem dX3_isCell_9 : decode cX3_isCell 9 = .ok (.getfield 46, 3) := by decide +kernel
theorem dX3_isCell_12 : decode cX3_isCell 12 = .ok (.if_icmp .ge 7, 3) := by decide +kernel
theorem dX3_isCell_15 : decode cX3_isCell 15 = .ok (.iconst 1, 1) := by decide +kernel
theorem dX3_isCell_16 : decode cX3_isCell 16 = .ok (.goto 4, 3) := by decide +kernel
theorem dX3_isCell_19 : decode cX3_isCell 19 = .ok (.iconst 0, 1) := by decide +kernel
theorem dX3_isCell_20 : decode cX3_isCell 20 = .ok (.ireturn, 1) := by decide +kernel
theorem dX3_isVariable_0 : decode cX3_isVariable 0 = .ok (.iload_n 0, 1) := by decide +kernel
theorem dX3_isVariable_1 : decode cX3_isVariable 1 = .ok (.ifCond .lt 13, 3) := by decide +kernel
theorem dX3_isVariable_4 : decode cX3_isVariable 4 = .ok (.iload_n 0, 1) := by decide +kernel
theorem dX3_isVariable_5 : decode cX3_isVariable 5 = .ok (.bipush 10, 2) := by decide +kernel
theorem dX3_isVariable_7 : decode cX3_isVariable 7 = .ok (.if_icmp .ge 7, 3) := by decide +kernel
theorem dX3_isVariable_10 : decode cX3_isVariable 10 = .ok (.iconst 1, 1) := by decide +kernel
theorem dX3_isVariable_11 : decode cX3_isVariable 11 = .ok (.goto 4, 3) := by decide +kernel
theorem dX3_isVariable_14 : decode cX3_isVariable 14 = .ok (.iconst 0, 1) := by decide +kernel
theorem dX3_isVariable_15 : decode cX3_isVariable 15 = .ok (.ireturn, 1) := by decide +kernel
theorem dX3_isDefinition_0 : decode cX3_isDefinition 0 = .ok (.iload_n 0, 1) := by decide +kernel
theorem dX3_isDefinition_1 : decode cX3_isDefinition 1 = .ok (.invokestatic 115, 3) := by decide +kernel
theorem dX3_isDefinition_4 : decode cX3_isDefinition 4 = .ok (.ifCond .eq 31, 3) := by decide +kernel
theorem dX3_isDefinition_7 : decode cX3_isDefinition 7 = .ok (.iload_n 1, 1) := by decide +kernel
theorem dX3_isDefinition_8 : decode cX3_isDefinition 8 = .ok (.ifCond .lt 27, 3) := by decide +kernel
theorem dX3_isDefinition_11 : decode cX3_isDefinition 11 = .ok (.iload_n 1, 1) := by decide +kernel
theorem dX3_isDefinition_12 : decode cX3_isDefinition 12 = .ok (.bipush 6, 2) := by decide +kernel
theorem dX3_isDefinition_14 : decode cX3_isDefinition 14 = .ok (.if_icmp .ge 21, 3) := by decide +kernel
theorem dX3_isDefinition_17 : decode cX3_isDefinition 17 = .ok (.iload_n 2, 1) := by decide +kernel
theorem dX3_isDefinition_18 : decode cX3_isDefinition 18 = .ok (.invokestatic 178, 3) := by decide +kernel
theorem dX3_isDefinition_21 : decode cX3_isDefinition 21 = .ok (.ifCond .eq 14, 3) := by decide +kernel
theorem dX3_isDefinition_24 : decode cX3_isDefinition 24 = .ok (.iload_n 3, 1) := by decide +kernel
theorem dX3_isDefinition_25 : decode cX3_isDefinition 25 = .ok (.invokestatic 178, 3) := by decide +kernel
theorem dX3_isDefinition_28 : decode cX3_isDefinition 28 = .ok (.ifCond .eq 7, 3) := by decide +kernel
theorem dX3_isDefinition_31 : decode cX3_isDefinition 31 = .ok (.iconst 1, 1) := by decide +kernel
theorem dX3_isDefinition_32 : decode cX3_isDefinition 32 = .ok (.goto 4, 3) := by decide +kernel
theorem dX3_isDefinition_35 : decode cX3_isDefinition 35 = .ok (.iconst 0, 1) := by decide +kernel
theorem dX3_isDefinition_36 : decode cX3_isDefinition 36 = .ok (.ireturn, 1) := by decide +kernel
theorem dX3_isOperand_0 : decode cX3_isOperand 0 = .ok (.iload_n 0, 1) := by decide +kernel
theorem dX3_isOperand_1 : decode cX3_isOperand 1 = .ok (.ifCond .lt 13, 3) := by decide +kernel
theorem dX3_isOperand_4 : decode cX3_isOperand 4 = .ok (.iload_n 0, 1) := by decide +kernel
theorem dX3_isOperand_5 : decode cX3_isOperand 5 = .ok (.bipush 110, 2) := by decide +kernel
theorem dX3_isOperand_7 : decode cX3_isOperand 7 = .ok (.if_icmp .ge 7, 3) := by decide +kernel
theorem dX3_isOperand_10 : decode cX3_isOperand 10 = .ok (.iconst 1, 1) := by decide +kernel
theorem dX3_isOperand_11 : decode cX3_isOperand 11 = .ok (.goto 4, 3) := by decide +kernel
theorem dX3_isOperand_14 : decode cX3_isOperand 14 = .ok (.iconst 0, 1) := by decide +kernel
theorem dX3_isOperand_15 : decode cX3_isOperand 15 = .ok (.ireturn, 1) := by decide +kernel
theorem dX3_isVariableOperand_0 : decode cX3_isVariableOperand 0 = .ok (.iload_n 0, 1) := by decide +kernel
theorem dX3_isVariableOperand_1 : decode cX3_isVariableOperand 1 = .ok (.bipush 100, 2) := by decide +kernel
theorem dX3_isVariableOperand_3 : decode cX3_isVariableOperand 3 = .ok (.if_icmp .lt 13, 3) := by decide +kernel
theorem dX3_isVariableOperand_6 : decode cX3_isVariableOperand 6 = .ok (.iload_n 0, 1) := by decide +kernel
theorem dX3_isVariableOperand_7 : decode cX3_isVariableOperand 7 = .ok (.bipush 110, 2) := by decide +kernel
theorem dX3_isVariableOperand_9 : decode cX3_isVariableOperand 9 = .ok (.if_icmp .ge 7, 3) := by decide +kernel
theorem dX3_isVariableOperand_12 : decode cX3_isVariableOperand 12 = .ok (.iconst 1, 1) := by decide +kernel
theorem dX3_isVariableOperand_13 : decode cX3_isVariableOperand 13 = .ok (.goto 4, 3) := by decide +kernel
theorem dX3_isVariableOperand_16 : decode cX3_isVariableOperand 16 = .ok (.iconst 0, 1) := by decide +kernel
theorem dX3_isVariableOperand_17 : decode cX3_isVariableOperand 17 = .ok (.ireturn, 1) := by decide +kernel
theorem dX3_contains_0 : decode cX3_contains 0 = .ok (.iload_n 0, 1) := by decide +kernel
theorem dX3_contains_1 : decode cX3_contains 1 = .ok (.iconst 1, 1) := by decide +kernel
theorem dX3_contains_2 : decode cX3_contains 2 = .ok (.iload_n 1, 1) := by decide +kernel
theorem dX3_contains_3 : decode cX3_contains 3 = .ok (.ishl, 1) := by decide +kernel
theorem dX3_contains_4 : decode cX3_contains 4 = .ok (.iand, 1) := by decide +kernel
theorem dX3_contains_5 : decode cX3_contains 5 = .ok (.ifCond .eq 7, 3) := by decide +kernel
theorem dX3_contains_8 : decode cX3_contains 8 = .ok (.iconst 1, 1) := by decide +kernel
theorem dX3_contains_9 : decode cX3_contains 9 = .ok (.goto 4, 3) := by decide +kernel
theorem dX3_contains_12 : decode cX3_contains 12 = .ok (.iconst 0, 1) := by decide +kernel
theorem dX3_contains_13 : decode cX3_contains 13 = .ok (.ireturn, 1) := by decide +kernel
theorem dX3_fail_0 : decode cX3_fail 0 = .ok (.sipush (-10002), 3) := by decide +kernel
theorem dX3_fail_3 : decode cX3_fail 3 = .ok (.iload_n 1, 1) := by decide +kernel
theorem dX3_fail_4 : decode cX3_fail 4 = .ok (.isub, 1) := by decide +kernel
theorem dX3_fail_5 : decode cX3_fail 5 = .ok (.istore_n 2, 1) := by decide +kernel
theorem dX3_fail_6 : decode cX3_fail 6 = .ok (.iload_n 2, 1) := by decide +kernel
theorem dX3_fail_7 : decode cX3_fail 7 = .ok (.ifCond .lt 18, 3) := by decide +kernel
theorem dX3_fail_10 : decode cX3_fail 10 = .ok (.iload_n 2, 1) := by decide +kernel
theorem dX3_fail_11 : decode cX3_fail 11 = .ok (.iconst 3, 1) := by decide +kernel
theorem dX3_fail_12 : decode cX3_fail 12 = .ok (.if_icmp .ge 13, 3) := by decide +kernel
theorem dX3_fail_15 : decode cX3_fail 15 = .ok (.aload_n 0, 1) := by decide +kernel
theorem dX3_fail_16 : decode cX3_fail 16 = .ok (.getfield 24, 3) := by decide +kernel
theorem dX3_fail_19 : decode cX3_fail 19 = .ok (.iload_n 2, 1) := by decide +kernel
theorem dX3_fail_20 : decode cX3_fail 20 = .ok (.dup2, 1) := by decide +kernel
theorem dX3_fail_21 : decode cX3_fail 21 = .ok (.iaload, 1) := by decide +kernel
theorem dX3_fail_22 : decode cX3_fail 22 = .ok (.iconst 1, 1) := by decide +kernel
theorem dX3_fail_23 : decode cX3_fail 23 = .ok (.iadd, 1) := by decide +kernel
theorem dX3_fail_24 : decode cX3_fail 24 = .ok (.iastore, 1) := by decide +kernel
theorem dX3_fail_25 : decode cX3_fail 25 = .ok (.iload_n 1, 1) := by decide +kernel
theorem dX3_fail_26 : decode cX3_fail 26 = .ok (.ireturn, 1) := by decide +kernel
theorem dX3_save_0 : decode cX3_save 0 = .ok (.aload_n 0, 1) := by decide +kernel
theorem dX3_save_1 : decode cX3_save 1 = .ok (.getfield 20, 3) := by decide +kernel
theorem dX3_save_4 : decode cX3_save 4 = .ok (.iconst 4, 1) := by decide +kernel
theorem dX3_save_5 : decode cX3_save 5 = .ok (.if_icmp .lt 7, 3) := by decide +kernel
theorem dX3_save_8 : decode cX3_save 8 = .ok (.aload_n 0, 1) := by decide +kernel
theorem dX3_save_9 : decode cX3_save 9 = .ok (.invokevirtual 181, 3) := by decide +kernel
theorem dX3_save_12 : decode cX3_save 12 = .ok (.aload_n 0, 1) := by decide +kernel
theorem dX3_save_13 : decode cX3_save 13 = .ok (.getfield 16, 3) := by decide +kernel
theorem dX3_save_16 : decode cX3_save 16 = .ok (.aload_n 0, 1) := by decide +kernel
theorem dX3_save_17 : decode cX3_save 17 = .ok (.getfield 20, 3) := by decide +kernel
theorem dX3_save_20 : decode cX3_save 20 = .ok (.aaload, 1) := by decide +kernel
theorem dX3_save_21 : decode cX3_save 21 = .ok (.aload_n 0, 1) := by decide +kernel
theorem dX3_save_22 : decode cX3_save 22 = .ok (.getfield 12, 3) := by decide +kernel
theorem dX3_save_25 : decode cX3_save 25 = .ok (.invokevirtual 150, 3) := by decide +kernel
theorem dX3_save_28 : decode cX3_save 28 = .ok (.aload_n 0, 1) := by decide +kernel
theorem dX3_save_29 : decode cX3_save 29 = .ok (.dup, 1) := by decide +kernel
theorem dX3_save_30 : decode cX3_save 30 = .ok (.getfield 20, 3) := by decide +kernel
theorem dX3_save_33 : decode cX3_save 33 = .ok (.iconst 1, 1) := by decide +kernel
theorem dX3_save_34 : decode cX3_save 34 = .ok (.iadd, 1) := by decide +kernel
theorem dX3_save_35 : decode cX3_save 35 = .ok (.putfield 20, 3) := by decide +kernel
theorem dX3_save_38 : decode cX3_save 38 = .ok (.return_, 1) := by decide +kernel
theorem dX3_dropOldest_0 : decode cX3_dropOldest 0 = .ok (.aload_n 0, 1) := by decide +kernel
theorem dX3_dropOldest_1 : decode cX3_dropOldest 1 = .ok (.getfield 16, 3) := by decide +kernel
theorem dX3_dropOldest_4 : decode cX3_dropOldest 4 = .ok (.iconst 0, 1) := by decide +kernel
theorem dX3_dropOldest_5 : decode cX3_dropOldest 5 = .ok (.aaload, 1) := by decide +kernel
theorem dX3_dropOldest_6 : decode cX3_dropOldest 6 = .ok (.astore_n 1, 1) := by decide +kernel
theorem dX3_dropOldest_7 : decode cX3_dropOldest 7 = .ok (.iconst 1, 1) := by decide +kernel
theorem dX3_dropOldest_8 : decode cX3_dropOldest 8 = .ok (.istore_n 2, 1) := by decide +kernel
theorem dX3_dropOldest_9 : decode cX3_dropOldest 9 = .ok (.iload_n 2, 1) := by decide +kernel
theorem dX3_dropOldest_10 : decode cX3_dropOldest 10 = .ok (.iconst 4, 1) := by decide +kernel
theorem dX3_dropOldest_11 : decode cX3_dropOldest 11 = .ok (.if_icmp .ge 23, 3) := by decide +kernel
theorem dX3_dropOldest_14 : decode cX3_dropOldest 14 = .ok (.aload_n 0, 1) := by decide +kernel
theorem dX3_dropOldest_15 : decode cX3_dropOldest 15 = .ok (.getfield 16, 3) := by decide +kernel
theorem dX3_dropOldest_18 : decode cX3_dropOldest 18 = .ok (.iload_n 2, 1) := by decide +kernel
theorem dX3_dropOldest_19 : decode cX3_dropOldest 19 = .ok (.iconst 1, 1) := by decide +kernel
theorem dX3_dropOldest_20 : decode cX3_dropOldest 20 = .ok (.isub, 1) := by decide +kernel
theorem dX3_dropOldest_21 : decode cX3_dropOldest 21 = .ok (.aload_n 0, 1) := by decide +kernel
theorem dX3_dropOldest_22 : decode cX3_dropOldest 22 = .ok (.getfield 16, 3) := by decide +kernel
theorem dX3_dropOldest_25 : decode cX3_dropOldest 25 = .ok (.iload_n 2, 1) := by decide +kernel
theorem dX3_dropOldest_26 : decode cX3_dropOldest 26 = .ok (.aaload, 1) := by decide +kernel
theorem dX3_dropOldest_27 : decode cX3_dropOldest 27 = .ok (.aastore, 1) := by decide +kernel
theorem dX3_dropOldest_28 : decode cX3_dropOldest 28 = .ok (.iinc 2 1, 3) := by decide +kernel
theorem dX3_dropOldest_31 : decode cX3_dropOldest 31 = .ok (.goto (-22), 3) := by decide +kernel
theorem dX3_dropOldest_34 : decode cX3_dropOldest 34 = .ok (.aload_n 0, 1) := by decide +kernel
theorem dX3_dropOldest_35 : decode cX3_dropOldest 35 = .ok (.getfield 16, 3) := by decide +kernel
theorem dX3_dropOldest_38 : decode cX3_dropOldest 38 = .ok (.iconst 3, 1) := by decide +kernel
theorem dX3_dropOldest_39 : decode cX3_dropOldest 39 = .ok (.aload_n 1, 1) := by decide +kernel
theorem dX3_dropOldest_40 : decode cX3_dropOldest 40 = .ok (.aastore, 1) := by decide +kernel
theorem dX3_dropOldest_41 : decode cX3_dropOldest 41 = .ok (.aload_n 0, 1) := by decide +kernel
theorem dX3_dropOldest_42 : decode cX3_dropOldest 42 = .ok (.iconst 3, 1) := by decide +kernel
theorem dX3_dropOldest_43 : decode cX3_dropOldest 43 = .ok (.putfield 20, 3) := by decide +kernel
theorem dX3_dropOldest_46 : decode cX3_dropOldest 46 = .ok (.return_, 1) := by decide +kernel
theorem dX3_finishEditing_0 : decode cX3_finishEditing 0 = .ok (.aload_n 0, 1) := by decide +kernel
theorem dX3_finishEditing_1 : decode cX3_finishEditing 1 = .ok (.getfield 31, 3) := by decide +kernel
theorem dX3_finishEditing_4 : decode cX3_finishEditing 4 = .ok (.aload_n 0, 1) := by decide +kernel
theorem dX3_finishEditing_5 : decode cX3_finishEditing 5 = .ok (.getfield 12, 3) := by decide +kernel
theorem dX3_finishEditing_8 : decode cX3_finishEditing 8 = .ok (.invokevirtual 154, 3) := by decide +kernel
theorem dX3_finishEditing_11 : decode cX3_finishEditing 11 = .ok (.aload_n 0, 1) := by decide +kernel
theorem dX3_finishEditing_12 : decode cX3_finishEditing 12 = .ok (.invokevirtual 91, 3) := by decide +kernel
theorem dX3_finishEditing_15 : decode cX3_finishEditing 15 = .ok (.aload_n 0, 1) := by decide +kernel
theorem dX3_finishEditing_16 : decode cX3_finishEditing 16 = .ok (.aload_n 0, 1) := by decide +kernel
theorem dX3_finishEditing_17 : decode cX3_finishEditing 17 = .ok (.getfield 12, 3) := by decide +kernel
theorem dX3_finishEditing_20 : decode cX3_finishEditing 20 = .ok (.getfield 88, 3) := by decide +kernel
theorem dX3_finishEditing_23 : decode cX3_finishEditing 23 = .ok (.iconst 1, 1) := by decide +kernel
theorem dX3_finishEditing_24 : decode cX3_finishEditing 24 = .ok (.if_icmp .ne 9, 3) := by decide +kernel
theorem dX3_finishEditing_27 : decode cX3_finishEditing 27 = .ok (.sipush 4095, 3) := by decide +kernel
theorem dX3_finishEditing_30 : decode cX3_finishEditing 30 = .ok (.goto 4, 3) := by decide +kernel
theorem dX3_finishEditing_33 : decode cX3_finishEditing 33 = .ok (.iconst 0, 1) := by decide +kernel
theorem dX3_finishEditing_34 : decode cX3_finishEditing 34 = .ok (.invokevirtual 94, 3) := by decide +kernel
theorem dX3_finishEditing_37 : decode cX3_finishEditing 37 = .ok (.return_, 1) := by decide +kernel
theorem dX3_startLastRun_0 : decode cX3_startLastRun 0 = .ok (.aload_n 0, 1) := by decide +kernel
theorem dX3_startLastRun_1 : decode cX3_startLastRun 1 = .ok (.getfield 12, 3) := by decide +kernel
theorem dX3_startLastRun_4 : decode cX3_startLastRun 4 = .ok (.iconst 0, 1) := by decide +kernel
theorem dX3_startLastRun_5 : decode cX3_startLastRun 5 = .ok (.putfield 97, 3) := by decide +kernel
theorem dX3_startLastRun_8 : decode cX3_startLastRun 8 = .ok (.return_, 1) := by decide +kernel
theorem dX3_walkRunOrder_0 : decode cX3_walkRunOrder 0 = .ok (.aload_n 0, 1) := by decide +kernel
theorem dX3_walkRunOrder_1 : decode cX3_walkRunOrder 1 = .ok (.iconst 0, 1) := by decide +kernel
theorem dX3_walkRunOrder_2 : decode cX3_walkRunOrder 2 = .ok (.putfield 35, 3) := by decide +kernel
theorem dX3_walkRunOrder_5 : decode cX3_walkRunOrder 5 = .ok (.iconst 0, 1) := by decide +kernel
theorem dX3_walkRunOrder_6 : decode cX3_walkRunOrder 6 = .ok (.istore_n 2, 1) := by decide +kernel
theorem dX3_walkRunOrder_7 : decode cX3_walkRunOrder 7 = .ok (.iload_n 2, 1) := by decide +kernel
theorem dX3_walkRunOrder_8 : decode cX3_walkRunOrder 8 = .ok (.aload_n 0, 1) := by decide +kernel
theorem dX3_walkRunOrder_9 : decode cX3_walkRunOrder 9 = .ok (.getfield 31, 3) := by decide +kernel
theorem dX3_walkRunOrder_12 : decode cX3_walkRunOrder 12 = .ok (.getfield 139, 3) := by decide +kernel
theorem dX3_walkRunOrder_15 : decode cX3_walkRunOrder 15 = .ok (.if_icmp .ge 64, 3) := by decide +kernel
theorem dX3_walkRunOrder_18 : decode cX3_walkRunOrder 18 = .ok (.aload_n 0, 1) := by decide +kernel
theorem dX3_walkRunOrder_19 : decode cX3_walkRunOrder 19 = .ok (.getfield 31, 3) := by decide +kernel
theorem dX3_walkRunOrder_22 : decode cX3_walkRunOrder 22 = .ok (.getfield 142, 3) := by decide +kernel
theorem dX3_walkRunOrder_25 : decode cX3_walkRunOrder 25 = .ok (.iload_n 2, 1) := by decide +kernel
theorem dX3_walkRunOrder_26 : decode cX3_walkRunOrder 26 = .ok (.iaload, 1) := by decide +kernel
theorem dX3_walkRunOrder_27 : decode cX3_walkRunOrder 27 = .ok (.istore_n 3, 1) := by decide +kernel
theorem dX3_walkRunOrder_28 : decode cX3_walkRunOrder 28 = .ok (.aload_n 0, 1) := by decide +kernel
theorem dX3_walkRunOrder_29 : decode cX3_walkRunOrder 29 = .ok (.iload_n 3, 1) := by decide +kernel
theorem dX3_walkRunOrder_30 : decode cX3_walkRunOrder 30 = .ok (.invokevirtual 184, 3) := by decide +kernel
theorem dX3_walkRunOrder_33 : decode cX3_walkRunOrder 33 = .ok (.istore 4, 2) := by decide +kernel
theorem dX3_walkRunOrder_35 : decode cX3_walkRunOrder 35 = .ok (.iload 4, 2) := by decide +kernel
theorem dX3_walkRunOrder_37 : decode cX3_walkRunOrder 37 = .ok (.ifCond .ne 19, 3) := by decide +kernel
theorem dX3_walkRunOrder_40 : decode cX3_walkRunOrder 40 = .ok (.iload_n 1, 1) := by decide +kernel
theorem dX3_walkRunOrder_41 : decode cX3_walkRunOrder 41 = .ok (.iload_n 3, 1) := by decide +kernel
theorem dX3_walkRunOrder_42 : decode cX3_walkRunOrder 42 = .ok (.invokestatic 187, 3) := by decide +kernel
theorem dX3_walkRunOrder_45 : decode cX3_walkRunOrder 45 = .ok (.ifCond .eq 11, 3) := by decide +kernel
theorem dX3_walkRunOrder_48 : decode cX3_walkRunOrder 48 = .ok (.aload_n 0, 1) := by decide +kernel
theorem dX3_walkRunOrder_49 : decode cX3_walkRunOrder 49 = .ok (.iload_n 3, 1) := by decide +kernel
theorem dX3_walkRunOrder_50 : decode cX3_walkRunOrder 50 = .ok (.invokevirtual 191, 3) := by decide +kernel
theorem dX3_walkRunOrder_53 : decode cX3_walkRunOrder 53 = .ok (.iconst 1, 1) := by decide +kernel
theorem dX3_walkRunOrder_54 : decode cX3_walkRunOrder 54 = .ok (.istore 4, 2) := by decide +kernel
theorem dX3_walkRunOrder_56 : decode cX3_walkRunOrder 56 = .ok (.iload 4, 2) := by decide +kernel
theorem dX3_walkRunOrder_58 : decode cX3_walkRunOrder 58 = .ok (.ifCond .eq 15, 3) := by decide +kernel
theorem dX3_walkRunOrder_61 : decode cX3_walkRunOrder 61 = .ok (.aload_n 0, 1) := by decide +kernel
theorem dX3_walkRunOrder_62 : decode cX3_walkRunOrder 62 = .ok (.dup, 1) := by decide +kernel
theorem dX3_walkRunOrder_63 : decode cX3_walkRunOrder 63 = .ok (.getfield 35, 3) := by decide +kernel
theorem dX3_walkRunOrder_66 : decode cX3_walkRunOrder 66 = .ok (.iconst 1, 1) := by decide +kernel
theorem dX3_walkRunOrder_67 : decode cX3_walkRunOrder 67 = .ok (.iload_n 3, 1) := by decide +kernel
theorem dX3_walkRunOrder_68 : decode cX3_walkRunOrder 68 = .ok (.ishl, 1) := by decide +kernel
theorem dX3_walkRunOrder_69 : decode cX3_walkRunOrder 69 = .ok (.ior, 1) := by decide +kernel
theorem dX3_walkRunOrder_70 : decode cX3_walkRunOrder 70 = .ok (.putfield 35, 3) := by decide +kernel
theorem dX3_walkRunOrder_73 : decode cX3_walkRunOrder 73 = .ok (.iinc 2 1, 3) := by decide +kernel
theorem dX3_walkRunOrder_76 : decode cX3_walkRunOrder 76 = .ok (.goto (-69), 3) := by decide +kernel
theorem dX3_walkRunOrder_79 : decode cX3_walkRunOrder 79 = .ok (.return_, 1) := by decide +kernel
theorem dX3_isUpToDate_0 : decode cX3_isUpToDate 0 = .ok (.aload_n 0, 1) := by decide +kernel
theorem dX3_isUpToDate_1 : decode cX3_isUpToDate 1 = .ok (.getfield 12, 3) := by decide +kernel
theorem dX3_isUpToDate_4 : decode cX3_isUpToDate 4 = .ok (.getfield 63, 3) := by decide +kernel
theorem dX3_isUpToDate_7 : decode cX3_isUpToDate 7 = .ok (.iload_n 1, 1) := by decide +kernel
theorem dX3_isUpToDate_8 : decode cX3_isUpToDate 8 = .ok (.aaload, 1) := by decide +kernel
theorem dX3_isUpToDate_9 : decode cX3_isUpToDate 9 = .ok (.astore_n 2, 1) := by decide +kernel
theorem dX3_isUpToDate_10 : decode cX3_isUpToDate 10 = .ok (.aload_n 2, 1) := by decide +kernel
theorem dX3_isUpToDate_11 : decode cX3_isUpToDate 11 = .ok (.getfield 121, 3) := by decide +kernel
theorem dX3_isUpToDate_14 : decode cX3_isUpToDate 14 = .ok (.ifCond .eq 56, 3) := by decide +kernel
theorem dX3_isUpToDate_17 : decode cX3_isUpToDate 17 = .ok (.aload_n 0, 1) := by decide +kernel
theorem dX3_isUpToDate_18 : decode cX3_isUpToDate 18 = .ok (.getfield 31, 3) := by decide +kernel
theorem dX3_isUpToDate_21 : decode cX3_isUpToDate 21 = .ok (.getfield 130, 3) := by decide +kernel
theorem dX3_isUpToDate_24 : decode cX3_isUpToDate 24 = .ok (.iload_n 1, 1) := by decide +kernel
theorem dX3_isUpToDate_25 : decode cX3_isUpToDate 25 = .ok (.iaload, 1) := by decide +kernel
theorem dX3_isUpToDate_26 : decode cX3_isUpToDate 26 = .ok (.aload_n 0, 1) := by decide +kernel
theorem dX3_isUpToDate_27 : decode cX3_isUpToDate 27 = .ok (.getfield 35, 3) := by decide +kernel
theorem dX3_isUpToDate_30 : decode cX3_isUpToDate 30 = .ok (.iconst (-1), 1) := by decide +kernel
theorem dX3_isUpToDate_31 : decode cX3_isUpToDate 31 = .ok (.ixor, 1) := by decide +kernel
theorem dX3_isUpToDate_32 : decode cX3_isUpToDate 32 = .ok (.iand, 1) := by decide +kernel
theorem dX3_isUpToDate_33 : decode cX3_isUpToDate 33 = .ok (.ifCond .ne 37, 3) := by decide +kernel
theorem dX3_isUpToDate_36 : decode cX3_isUpToDate 36 = .ok (.aload_n 2, 1) := by decide +kernel
theorem dX3_isUpToDate_37 : decode cX3_isUpToDate 37 = .ok (.getfield 194, 3) := by decide +kernel
theorem dX3_isUpToDate_40 : decode cX3_isUpToDate 40 = .ok (.aload_n 0, 1) := by decide +kernel
theorem dX3_isUpToDate_41 : decode cX3_isUpToDate 41 = .ok (.aload_n 2, 1) := by decide +kernel
theorem dX3_isUpToDate_42 : decode cX3_isUpToDate 42 = .ok (.getfield 170, 3) := by decide +kernel
theorem dX3_isUpToDate_45 : decode cX3_isUpToDate 45 = .ok (.invokevirtual 197, 3) := by decide +kernel
theorem dX3_isUpToDate_48 : decode cX3_isUpToDate 48 = .ok (.if_icmp .ne 22, 3) := by decide +kernel
theorem dX3_isUpToDate_51 : decode cX3_isUpToDate 51 = .ok (.aload_n 2, 1) := by decide +kernel
theorem dX3_isUpToDate_52 : decode cX3_isUpToDate 52 = .ok (.getfield 200, 3) := by decide +kernel
theorem dX3_isUpToDate_55 : decode cX3_isUpToDate 55 = .ok (.aload_n 0, 1) := by decide +kernel
theorem dX3_isUpToDate_56 : decode cX3_isUpToDate 56 = .ok (.aload_n 2, 1) := by decide +kernel
theorem dX3_isUpToDate_57 : decode cX3_isUpToDate 57 = .ok (.getfield 173, 3) := by decide +kernel
theorem dX3_isUpToDate_60 : decode cX3_isUpToDate 60 = .ok (.invokevirtual 197, 3) := by decide +kernel
theorem dX3_isUpToDate_63 : decode cX3_isUpToDate 63 = .ok (.if_icmp .ne 7, 3) := by decide +kernel
theorem dX3_isUpToDate_66 : decode cX3_isUpToDate 66 = .ok (.iconst 1, 1) := by decide +kernel
theorem dX3_isUpToDate_67 : decode cX3_isUpToDate 67 = .ok (.goto 4, 3) := by decide +kernel
theorem dX3_isUpToDate_70 : decode cX3_isUpToDate 70 = .ok (.iconst 0, 1) := by decide +kernel
theorem dX3_isUpToDate_71 : decode cX3_isUpToDate 71 = .ok (.ireturn, 1) := by decide +kernel
theorem dX3_run_0 : decode cX3_run 0 = .ok (.aload_n 0, 1) := by decide +kernel
theorem dX3_run_1 : decode cX3_run 1 = .ok (.getfield 12, 3) := by decide +kernel
theorem dX3_run_4 : decode cX3_run 4 = .ok (.getfield 63, 3) := by decide +kernel
theorem dX3_run_7 : decode cX3_run 7 = .ok (.iload_n 1, 1) := by decide +kernel
theorem dX3_run_8 : decode cX3_run 8 = .ok (.aaload, 1) := by decide +kernel
theorem dX3_run_9 : decode cX3_run 9 = .ok (.astore_n 2, 1) := by decide +kernel
theorem dX3_run_10 : decode cX3_run 10 = .ok (.aload_n 2, 1) := by decide +kernel
theorem dX3_run_11 : decode cX3_run 11 = .ok (.aload_n 0, 1) := by decide +kernel
theorem dX3_run_12 : decode cX3_run 12 = .ok (.aload_n 2, 1) := by decide +kernel
theorem dX3_run_13 : decode cX3_run 13 = .ok (.getfield 170, 3) := by decide +kernel
theorem dX3_run_16 : decode cX3_run 16 = .ok (.invokevirtual 197, 3) := by decide +kernel
theorem dX3_run_19 : decode cX3_run 19 = .ok (.putfield 194, 3) := by decide +kernel
theorem dX3_run_22 : decode cX3_run 22 = .ok (.aload_n 2, 1) := by decide +kernel
theorem dX3_run_23 : decode cX3_run 23 = .ok (.aload_n 0, 1) := by decide +kernel
theorem dX3_run_24 : decode cX3_run 24 = .ok (.aload_n 2, 1) := by decide +kernel
theorem dX3_run_25 : decode cX3_run 25 = .ok (.getfield 173, 3) := by decide +kernel
theorem dX3_run_28 : decode cX3_run 28 = .ok (.invokevirtual 197, 3) := by decide +kernel
theorem dX3_run_31 : decode cX3_run 31 = .ok (.putfield 200, 3) := by decide +kernel
theorem dX3_run_34 : decode cX3_run 34 = .ok (.aload_n 2, 1) := by decide +kernel
theorem dX3_run_35 : decode cX3_run 35 = .ok (.getfield 167, 3) := by decide +kernel
theorem dX3_run_38 : decode cX3_run 38 = .ok (.aload_n 0, 1) := by decide +kernel
theorem dX3_run_39 : decode cX3_run 39 = .ok (.aload_n 2, 1) := by decide +kernel
theorem dX3_run_40 : decode cX3_run 40 = .ok (.getfield 170, 3) := by decide +kernel
theorem dX3_run_43 : decode cX3_run 43 = .ok (.invokevirtual 203, 3) := by decide +kernel
theorem dX3_run_46 : decode cX3_run 46 = .ok (.aload_n 0, 1) := by decide +kernel
theorem dX3_run_47 : decode cX3_run 47 = .ok (.aload_n 2, 1) := by decide +kernel
theorem dX3_run_48 : decode cX3_run 48 = .ok (.getfield 173, 3) := by decide +kernel
theorem dX3_run_51 : decode cX3_run 51 = .ok (.invokevirtual 203, 3) := by decide +kernel
theorem dX3_run_54 : decode cX3_run 54 = .ok (.invokestatic 206, 3) := by decide +kernel
theorem dX3_run_57 : decode cX3_run 57 = .ok (.istore_n 3, 1) := by decide +kernel
theorem dX3_run_58 : decode cX3_run 58 = .ok (.aload_n 2, 1) := by decide +kernel
theorem dX3_run_59 : decode cX3_run 59 = .ok (.getfield 121, 3) := by decide +kernel
theorem dX3_run_62 : decode cX3_run 62 = .ok (.ifCond .eq 11, 3) := by decide +kernel
theorem dX3_run_65 : decode cX3_run 65 = .ok (.iload_n 3, 1) := by decide +kernel
theorem dX3_run_66 : decode cX3_run 66 = .ok (.aload_n 2, 1) := by decide +kernel
theorem dX3_run_67 : decode cX3_run 67 = .ok (.getfield 210, 3) := by decide +kernel
theorem dX3_run_70 : decode cX3_run 70 = .ok (.if_icmp .eq 32, 3) := by decide +kernel
theorem dX3_run_73 : decode cX3_run 73 = .ok (.aload_n 0, 1) := by decide +kernel
theorem dX3_run_74 : decode cX3_run 74 = .ok (.getfield 12, 3) := by decide +kernel
theorem dX3_run_77 : decode cX3_run 77 = .ok (.dup, 1) := by decide +kernel
theorem dX3_run_78 : decode cX3_run 78 = .ok (.getfield 213, 3) := by decide +kernel
theorem dX3_run_81 : decode cX3_run 81 = .ok (.iconst 1, 1) := by decide +kernel
theorem dX3_run_82 : decode cX3_run 82 = .ok (.iadd, 1) := by decide +kernel
theorem dX3_run_83 : decode cX3_run 83 = .ok (.putfield 213, 3) := by decide +kernel
theorem dX3_run_86 : decode cX3_run 86 = .ok (.aload_n 2, 1) := by decide +kernel
theorem dX3_run_87 : decode cX3_run 87 = .ok (.aload_n 0, 1) := by decide +kernel
theorem dX3_run_88 : decode cX3_run 88 = .ok (.getfield 12, 3) := by decide +kernel
theorem dX3_run_91 : decode cX3_run 91 = .ok (.getfield 213, 3) := by decide +kernel
theorem dX3_run_94 : decode cX3_run 94 = .ok (.putfield 121, 3) := by decide +kernel
theorem dX3_run_97 : decode cX3_run 97 = .ok (.aload_n 2, 1) := by decide +kernel
theorem dX3_run_98 : decode cX3_run 98 = .ok (.iload_n 3, 1) := by decide +kernel
theorem dX3_run_99 : decode cX3_run 99 = .ok (.putfield 210, 3) := by decide +kernel
theorem dX3_run_102 : decode cX3_run 102 = .ok (.aload_n 2, 1) := by decide +kernel
theorem dX3_run_103 : decode cX3_run 103 = .ok (.dup, 1) := by decide +kernel
theorem dX3_run_104 : decode cX3_run 104 = .ok (.getfield 124, 3) := by decide +kernel
theorem dX3_run_107 : decode cX3_run 107 = .ok (.iconst 1, 1) := by decide +kernel
theorem dX3_run_108 : decode cX3_run 108 = .ok (.iadd, 1) := by decide +kernel
theorem dX3_run_109 : decode cX3_run 109 = .ok (.putfield 124, 3) := by decide +kernel
theorem dX3_run_112 : decode cX3_run 112 = .ok (.aload_n 0, 1) := by decide +kernel
theorem dX3_run_113 : decode cX3_run 113 = .ok (.getfield 12, 3) := by decide +kernel
theorem dX3_run_116 : decode cX3_run 116 = .ok (.iload_n 1, 1) := by decide +kernel
theorem dX3_run_117 : decode cX3_run 117 = .ok (.invokevirtual 216, 3) := by decide +kernel
theorem dX3_run_120 : decode cX3_run 120 = .ok (.return_, 1) := by decide +kernel
theorem dX3_inputVersion_0 : decode cX3_inputVersion 0 = .ok (.aload_n 0, 1) := by decide +kernel
theorem dX3_inputVersion_1 : decode cX3_inputVersion 1 = .ok (.getfield 31, 3) := by decide +kernel
theorem dX3_inputVersion_4 : decode cX3_inputVersion 4 = .ok (.iload_n 1, 1) := by decide +kernel
theorem dX3_inputVersion_5 : decode cX3_inputVersion 5 = .ok (.invokevirtual 219, 3) := by decide +kernel
theorem dX3_inputVersion_8 : decode cX3_inputVersion 8 = .ok (.istore_n 2, 1) := by decide +kernel
theorem dX3_inputVersion_9 : decode cX3_inputVersion 9 = .ok (.iload_n 2, 1) := by decide +kernel
theorem dX3_inputVersion_10 : decode cX3_inputVersion 10 = .ok (.iconst (-1), 1) := by decide +kernel
theorem dX3_inputVersion_11 : decode cX3_inputVersion 11 = .ok (.if_icmp .ne 7, 3) := by decide +kernel
theorem dX3_inputVersion_14 : decode cX3_inputVersion 14 = .ok (.iconst 0, 1) := by decide +kernel
theorem dX3_inputVersion_15 : decode cX3_inputVersion 15 = .ok (.goto 15, 3) := by decide +kernel
theorem dX3_inputVersion_18 : decode cX3_inputVersion 18 = .ok (.aload_n 0, 1) := by decide +kernel
theorem dX3_inputVersion_19 : decode cX3_inputVersion 19 = .ok (.getfield 12, 3) := by decide +kernel
theorem dX3_inputVersion_22 : decode cX3_inputVersion 22 = .ok (.getfield 63, 3) := by decide +kernel
theorem dX3_inputVersion_25 : decode cX3_inputVersion 25 = .ok (.iload_n 2, 1) := by decide +kernel
theorem dX3_inputVersion_26 : decode cX3_inputVersion 26 = .ok (.aaload, 1) := by decide +kernel
theorem dX3_inputVersion_27 : decode cX3_inputVersion 27 = .ok (.getfield 121, 3) := by decide +kernel
theorem dX3_inputVersion_30 : decode cX3_inputVersion 30 = .ok (.ireturn, 1) := by decide +kernel
theorem dX3_inputResult_0 : decode cX3_inputResult 0 = .ok (.aload_n 0, 1) := by decide +kernel
theorem dX3_inputResult_1 : decode cX3_inputResult 1 = .ok (.getfield 31, 3) := by decide +kernel
theorem dX3_inputResult_4 : decode cX3_inputResult 4 = .ok (.iload_n 1, 1) := by decide +kernel
theorem dX3_inputResult_5 : decode cX3_inputResult 5 = .ok (.invokevirtual 219, 3) := by decide +kernel
theorem dX3_inputResult_8 : decode cX3_inputResult 8 = .ok (.istore_n 2, 1) := by decide +kernel
theorem dX3_inputResult_9 : decode cX3_inputResult 9 = .ok (.iload_n 2, 1) := by decide +kernel
theorem dX3_inputResult_10 : decode cX3_inputResult 10 = .ok (.iconst (-1), 1) := by decide +kernel
theorem dX3_inputResult_11 : decode cX3_inputResult 11 = .ok (.if_icmp .ne 7, 3) := by decide +kernel
theorem dX3_inputResult_14 : decode cX3_inputResult 14 = .ok (.iload_n 1, 1) := by decide +kernel
theorem dX3_inputResult_15 : decode cX3_inputResult 15 = .ok (.goto 15, 3) := by decide +kernel
theorem dX3_inputResult_18 : decode cX3_inputResult 18 = .ok (.aload_n 0, 1) := by decide +kernel
theorem dX3_inputResult_19 : decode cX3_inputResult 19 = .ok (.getfield 12, 3) := by decide +kernel
theorem dX3_inputResult_22 : decode cX3_inputResult 22 = .ok (.getfield 63, 3) := by decide +kernel
theorem dX3_inputResult_25 : decode cX3_inputResult 25 = .ok (.iload_n 2, 1) := by decide +kernel
theorem dX3_inputResult_26 : decode cX3_inputResult 26 = .ok (.aaload, 1) := by decide +kernel
theorem dX3_inputResult_27 : decode cX3_inputResult 27 = .ok (.getfield 210, 3) := by decide +kernel
theorem dX3_inputResult_30 : decode cX3_inputResult 30 = .ok (.ireturn, 1) := by decide +kernel
theorem dX3_combine_0 : decode cX3_combine 0 = .ok (.iload_n 1, 1) := by decide +kernel
theorem dX3_combine_1 : decode cX3_combine 1 = .ok (.invokestatic 222, 3) := by decide +kernel
theorem dX3_combine_4 : decode cX3_combine 4 = .ok (.ifCond .ne 10, 3) := by decide +kernel
theorem dX3_combine_7 : decode cX3_combine 7 = .ok (.iload_n 2, 1) := by decide +kernel
theorem dX3_combine_8 : decode cX3_combine 8 = .ok (.invokestatic 222, 3) := by decide +kernel
theorem dX3_combine_11 : decode cX3_combine 11 = .ok (.ifCond .eq 7, 3) := by decide +kernel
theorem dX3_combine_14 : decode cX3_combine 14 = .ok (.sipush 10005, 3) := by decide +kernel
theorem dX3_combine_17 : decode cX3_combine 17 = .ok (.ireturn, 1) := by decide +kernel
theorem dX3_combine_18 : decode cX3_combine 18 = .ok (.iload_n 0, 1) := by decide +kernel
theorem dX3_combine_19 : decode cX3_combine 19 = .ok (.tableswitch 74 0 4 #[33, 40, 47, 54, 68], 33) := by decide +kernel
theorem dX3_combine_52 : decode cX3_combine 52 = .ok (.iload_n 1, 1) := by decide +kernel
theorem dX3_combine_53 : decode cX3_combine 53 = .ok (.iload_n 2, 1) := by decide +kernel
theorem dX3_combine_54 : decode cX3_combine 54 = .ok (.iadd, 1) := by decide +kernel
theorem dX3_combine_55 : decode cX3_combine 55 = .ok (.invokestatic 225, 3) := by decide +kernel
theorem dX3_combine_58 : decode cX3_combine 58 = .ok (.ireturn, 1) := by decide +kernel
theorem dX3_combine_59 : decode cX3_combine 59 = .ok (.iload_n 1, 1) := by decide +kernel
theorem dX3_combine_60 : decode cX3_combine 60 = .ok (.iload_n 2, 1) := by decide +kernel
theorem dX3_combine_61 : decode cX3_combine 61 = .ok (.isub, 1) := by decide +kernel
theorem dX3_combine_62 : decode cX3_combine 62 = .ok (.invokestatic 225, 3) := by decide +kernel
theorem dX3_combine_65 : decode cX3_combine 65 = .ok (.ireturn, 1) := by decide +kernel
theorem dX3_combine_66 : decode cX3_combine 66 = .ok (.iload_n 1, 1) := by decide +kernel
theorem dX3_combine_67 : decode cX3_combine 67 = .ok (.iload_n 2, 1) := by decide +kernel
theorem dX3_combine_68 : decode cX3_combine 68 = .ok (.imul, 1) := by decide +kernel
theorem dX3_combine_69 : decode cX3_combine 69 = .ok (.invokestatic 225, 3) := by decide +kernel
theorem dX3_combine_72 : decode cX3_combine 72 = .ok (.ireturn, 1) := by decide +kernel
theorem dX3_combine_73 : decode cX3_combine 73 = .ok (.iload_n 2, 1) := by decide +kernel
theorem dX3_combine_74 : decode cX3_combine 74 = .ok (.ifCond .ne 9, 3) := by decide +kernel
theorem dX3_combine_77 : decode cX3_combine 77 = .ok (.sipush 10007, 3) := by decide +kernel
theorem dX3_combine_80 : decode cX3_combine 80 = .ok (.goto 6, 3) := by decide +kernel
theorem dX3_combine_83 : decode cX3_combine 83 = .ok (.iload_n 1, 1) := by decide +kernel
theorem dX3_combine_84 : decode cX3_combine 84 = .ok (.iload_n 2, 1) := by decide +kernel
theorem dX3_combine_85 : decode cX3_combine 85 = .ok (.idiv, 1) := by decide +kernel
theorem dX3_combine_86 : decode cX3_combine 86 = .ok (.ireturn, 1) := by decide +kernel
theorem dX3_combine_87 : decode cX3_combine 87 = .ok (.iload_n 1, 1) := by decide +kernel
theorem dX3_combine_88 : decode cX3_combine 88 = .ok (.iload_n 2, 1) := by decide +kernel
theorem dX3_combine_89 : decode cX3_combine 89 = .ok (.invokestatic 228, 3) := by decide +kernel
theorem dX3_combine_92 : decode cX3_combine 92 = .ok (.ireturn, 1) := by decide +kernel
theorem dX3_combine_93 : decode cX3_combine 93 = .ok (.iload_n 1, 1) := by decide +kernel
theorem dX3_combine_94 : decode cX3_combine 94 = .ok (.iload_n 2, 1) := by decide +kernel
theorem dX3_combine_95 : decode cX3_combine 95 = .ok (.invokestatic 232, 3) := by decide +kernel
theorem dX3_combine_98 : decode cX3_combine 98 = .ok (.ireturn, 1) := by decide +kernel
theorem dX3_limit_0 : decode cX3_limit 0 = .ok (.iload_n 0, 1) := by decide +kernel
theorem dX3_limit_1 : decode cX3_limit 1 = .ok (.sipush (-9999), 3) := by decide +kernel
theorem dX3_limit_4 : decode cX3_limit 4 = .ok (.if_icmp .lt 10, 3) := by decide +kernel
theorem dX3_limit_7 : decode cX3_limit 7 = .ok (.iload_n 0, 1) := by decide +kernel
theorem dX3_limit_8 : decode cX3_limit 8 = .ok (.sipush 9999, 3) := by decide +kernel
theorem dX3_limit_11 : decode cX3_limit 11 = .ok (.if_icmp .le 9, 3) := by decide +kernel
theorem dX3_limit_14 : decode cX3_limit 14 = .ok (.sipush 10006, 3) := by decide +kernel
theorem dX3_limit_17 : decode cX3_limit 17 = .ok (.goto 4, 3) := by decide +kernel
theorem dX3_limit_20 : decode cX3_limit 20 = .ok (.iload_n 0, 1) := by decide +kernel
theorem dX3_limit_21 : decode cX3_limit 21 = .ok (.ireturn, 1) := by decide +kernel
theorem dX3_isErrorResult_0 : decode cX3_isErrorResult 0 = .ok (.iload_n 0, 1) := by decide +kernel
theorem dX3_isErrorResult_1 : decode cX3_isErrorResult 1 = .ok (.sipush 10000, 3) := by decide +kernel
theorem dX3_isErrorResult_4 : decode cX3_isErrorResult 4 = .ok (.if_icmp .lt 7, 3) := by decide +kernel
theorem dX3_isErrorResult_7 : decode cX3_isErrorResult 7 = .ok (.iconst 1, 1) := by decide +kernel
theorem dX3_isErrorResult_8 : decode cX3_isErrorResult 8 = .ok (.goto 4, 3) := by decide +kernel
theorem dX3_isErrorResult_11 : decode cX3_isErrorResult 11 = .ok (.iconst 0, 1) := by decide +kernel
theorem dX3_isErrorResult_12 : decode cX3_isErrorResult 12 = .ok (.ireturn, 1) := by decide +kernel
theorem dX3_statusOf_0 : decode cX3_statusOf 0 = .ok (.aload_n 0, 1) := by decide +kernel
theorem dX3_statusOf_1 : decode cX3_statusOf 1 = .ok (.getfield 31, 3) := by decide +kernel
theorem dX3_statusOf_4 : decode cX3_statusOf 4 = .ok (.getfield 100, 3) := by decide +kernel
theorem dX3_statusOf_7 : decode cX3_statusOf 7 = .ok (.iload_n 1, 1) := by decide +kernel
theorem dX3_statusOf_8 : decode cX3_statusOf 8 = .ok (.iaload, 1) := by decide +kernel
theorem dX3_statusOf_9 : decode cX3_statusOf 9 = .ok (.ifCond .eq 13, 3) := by decide +kernel
theorem dX3_statusOf_12 : decode cX3_statusOf 12 = .ok (.aload_n 0, 1) := by decide +kernel
theorem dX3_statusOf_13 : decode cX3_statusOf 13 = .ok (.getfield 31, 3) := by decide +kernel
theorem dX3_statusOf_16 : decode cX3_statusOf 16 = .ok (.getfield 100, 3) := by decide +kernel
theorem dX3_statusOf_19 : decode cX3_statusOf 19 = .ok (.iload_n 1, 1) := by decide +kernel
theorem dX3_statusOf_20 : decode cX3_statusOf 20 = .ok (.iaload, 1) := by decide +kernel
theorem dX3_statusOf_21 : decode cX3_statusOf 21 = .ok (.ireturn, 1) := by decide +kernel
theorem dX3_statusOf_22 : decode cX3_statusOf 22 = .ok (.aload_n 0, 1) := by decide +kernel
theorem dX3_statusOf_23 : decode cX3_statusOf 23 = .ok (.getfield 35, 3) := by decide +kernel
theorem dX3_statusOf_26 : decode cX3_statusOf 26 = .ok (.iload_n 1, 1) := by decide +kernel
theorem dX3_statusOf_27 : decode cX3_statusOf 27 = .ok (.invokestatic 187, 3) := by decide +kernel
theorem dX3_statusOf_30 : decode cX3_statusOf 30 = .ok (.ifCond .ne 5, 3) := by decide +kernel
theorem dX3_statusOf_33 : decode cX3_statusOf 33 = .ok (.iconst 1, 1) := by decide +kernel
theorem dX3_statusOf_34 : decode cX3_statusOf 34 = .ok (.ireturn, 1) := by decide +kernel
theorem dX3_statusOf_35 : decode cX3_statusOf 35 = .ok (.aload_n 0, 1) := by decide +kernel
theorem dX3_statusOf_36 : decode cX3_statusOf 36 = .ok (.getfield 12, 3) := by decide +kernel
theorem dX3_statusOf_39 : decode cX3_statusOf 39 = .ok (.getfield 63, 3) := by decide +kernel
theorem dX3_statusOf_42 : decode cX3_statusOf 42 = .ok (.iload_n 1, 1) := by decide +kernel
theorem dX3_statusOf_43 : decode cX3_statusOf 43 = .ok (.aaload, 1) := by decide +kernel
theorem dX3_statusOf_44 : decode cX3_statusOf 44 = .ok (.getfield 210, 3) := by decide +kernel
theorem dX3_statusOf_47 : decode cX3_statusOf 47 = .ok (.istore_n 2, 1) := by decide +kernel
theorem dX3_statusOf_48 : decode cX3_statusOf 48 = .ok (.iload_n 2, 1) := by decide +kernel
theorem dX3_statusOf_49 : decode cX3_statusOf 49 = .ok (.invokestatic 222, 3) := by decide +kernel
theorem dX3_statusOf_52 : decode cX3_statusOf 52 = .ok (.ifCond .eq 11, 3) := by decide +kernel
theorem dX3_statusOf_55 : decode cX3_statusOf 55 = .ok (.iload_n 2, 1) := by decide +kernel
theorem dX3_statusOf_56 : decode cX3_statusOf 56 = .ok (.sipush 10000, 3) := by decide +kernel
theorem dX3_statusOf_59 : decode cX3_statusOf 59 = .ok (.isub, 1) := by decide +kernel
theorem dX3_statusOf_60 : decode cX3_statusOf 60 = .ok (.goto 4, 3) := by decide +kernel
theorem dX3_statusOf_63 : decode cX3_statusOf 63 = .ok (.iconst 0, 1) := by decide +kernel
theorem dX3_statusOf_64 : decode cX3_statusOf 64 = .ok (.ireturn, 1) := by decide +kernel
theorem dX3_freshValueOf_0 : decode cX3_freshValueOf 0 = .ok (.aload_n 0, 1) := by decide +kernel
theorem dX3_freshValueOf_1 : decode cX3_freshValueOf 1 = .ok (.iload_n 1, 1) := by decide +kernel
theorem dX3_freshValueOf_2 : decode cX3_freshValueOf 2 = .ok (.invokevirtual 109, 3) := by decide +kernel
theorem dX3_freshValueOf_5 : decode cX3_freshValueOf 5 = .ok (.ifCond .ne 18, 3) := by decide +kernel
theorem dX3_freshValueOf_8 : decode cX3_freshValueOf 8 = .ok (.aload_n 0, 1) := by decide +kernel
theorem dX3_freshValueOf_9 : decode cX3_freshValueOf 9 = .ok (.getfield 12, 3) := by decide +kernel
theorem dX3_freshValueOf_12 : decode cX3_freshValueOf 12 = .ok (.getfield 63, 3) := by decide +kernel
theorem dX3_freshValueOf_15 : decode cX3_freshValueOf 15 = .ok (.iload_n 1, 1) := by decide +kernel
theorem dX3_freshValueOf_16 : decode cX3_freshValueOf 16 = .ok (.aaload, 1) := by decide +kernel
theorem dX3_freshValueOf_17 : decode cX3_freshValueOf 17 = .ok (.getfield 210, 3) := by decide +kernel
theorem dX3_freshValueOf_20 : decode cX3_freshValueOf 20 = .ok (.goto 6, 3) := by decide +kernel
theorem dX3_freshValueOf_23 : decode cX3_freshValueOf 23 = .ok (.sipush (-10001), 3) := by decide +kernel
theorem dX3_freshValueOf_26 : decode cX3_freshValueOf 26 = .ok (.ireturn, 1) := by decide +kernel
theorem dX3_dependentsOf_0 : decode cX3_dependentsOf 0 = .ok (.iconst 0, 1) := by decide +kernel
theorem dX3_dependentsOf_1 : decode cX3_dependentsOf 1 = .ok (.istore_n 2, 1) := by decide +kernel
theorem dX3_dependentsOf_2 : decode cX3_dependentsOf 2 = .ok (.iconst 0, 1) := by decide +kernel
theorem dX3_dependentsOf_3 : decode cX3_dependentsOf 3 = .ok (.istore_n 3, 1) := by decide +kernel
theorem dX3_dependentsOf_4 : decode cX3_dependentsOf 4 = .ok (.iload_n 3, 1) := by decide +kernel
theorem dX3_dependentsOf_5 : decode cX3_dependentsOf 5 = .ok (.aload_n 0, 1) := by decide +kernel
theorem dX3_dependentsOf_6 : decode cX3_dependentsOf 6 = .ok (.getfield 12, 3) := by decide +kernel
theorem dX3_dependentsOf_9 : decode cX3_dependentsOf 9 = .ok (.getfield 46, 3) := by decide +kernel
theorem dX3_dependentsOf_12 : decode cX3_dependentsOf 12 = .ok (.if_icmp .ge 31, 3) := by decide +kernel
theorem dX3_dependentsOf_15 : decode cX3_dependentsOf 15 = .ok (.aload_n 0, 1) := by decide +kernel
theorem dX3_dependentsOf_16 : decode cX3_dependentsOf 16 = .ok (.getfield 31, 3) := by decide +kernel
theorem dX3_dependentsOf_19 : decode cX3_dependentsOf 19 = .ok (.getfield 103, 3) := by decide +kernel
theorem dX3_dependentsOf_22 : decode cX3_dependentsOf 22 = .ok (.iload_n 3, 1) := by decide +kernel
theorem dX3_dependentsOf_23 : decode cX3_dependentsOf 23 = .ok (.iaload, 1) := by decide +kernel
theorem dX3_dependentsOf_24 : decode cX3_dependentsOf 24 = .ok (.iload_n 1, 1) := by decide +kernel
theorem dX3_dependentsOf_25 : decode cX3_dependentsOf 25 = .ok (.invokestatic 187, 3) := by decide +kernel
theorem dX3_dependentsOf_28 : decode cX3_dependentsOf 28 = .ok (.ifCond .eq 9, 3) := by decide +kernel
theorem dX3_dependentsOf_31 : decode cX3_dependentsOf 31 = .ok (.iload_n 2, 1) := by decide +kernel
theorem dX3_dependentsOf_32 : decode cX3_dependentsOf 32 = .ok (.iconst 1, 1) := by decide +kernel
theorem dX3_dependentsOf_33 : decode cX3_dependentsOf 33 = .ok (.iload_n 3, 1) := by decide +kernel
theorem dX3_dependentsOf_34 : decode cX3_dependentsOf 34 = .ok (.ishl, 1) := by decide +kernel
theorem dX3_dependentsOf_35 : decode cX3_dependentsOf 35 = .ok (.ior, 1) := by decide +kernel
theorem dX3_dependentsOf_36 : decode cX3_dependentsOf 36 = .ok (.istore_n 2, 1) := by decide +kernel
theorem dX3_dependentsOf_37 : decode cX3_dependentsOf 37 = .ok (.iinc 3 1, 3) := by decide +kernel
theorem dX3_dependentsOf_40 : decode cX3_dependentsOf 40 = .ok (.goto (-36), 3) := by decide +kernel
theorem dX3_dependentsOf_43 : decode cX3_dependentsOf 43 = .ok (.iload_n 2, 1) := by decide +kernel
theorem dX3_dependentsOf_44 : decode cX3_dependentsOf 44 = .ok (.ireturn, 1) := by decide +kernel
theorem dX4_init_0 : decode cX4_init 0 = .ok (.aload_n 0, 1) := by decide +kernel
theorem dX4_init_1 : decode cX4_init 1 = .ok (.invokespecial 1, 3) := by decide +kernel
theorem dX4_init_4 : decode cX4_init 4 = .ok (.aload_n 0, 1) := by decide +kernel
theorem dX4_init_5 : decode cX4_init 5 = .ok (.sipush 137, 3) := by decide +kernel
theorem dX4_init_8 : decode cX4_init 8 = .ok (.newarray .int, 2) := by decide +kernel
theorem dX4_init_10 : decode cX4_init 10 = .ok (.putfield 7, 3) := by decide +kernel
theorem dX4_init_13 : decode cX4_init 13 = .ok (.aload_n 0, 1) := by decide +kernel
theorem dX4_init_14 : decode cX4_init 14 = .ok (.sipush 548, 3) := by decide +kernel
theorem dX4_init_17 : decode cX4_init 17 = .ok (.newarray .int, 2) := by decide +kernel
theorem dX4_init_19 : decode cX4_init 19 = .ok (.putfield 13, 3) := by decide +kernel
theorem dX4_init_22 : decode cX4_init 22 = .ok (.aload_n 0, 1) := by decide +kernel
theorem dX4_init_23 : decode cX4_init 23 = .ok (.iconst 3, 1) := by decide +kernel
theorem dX4_init_24 : decode cX4_init 24 = .ok (.newarray .int, 2) := by decide +kernel
theorem dX4_init_26 : decode cX4_init 26 = .ok (.putfield 16, 3) := by decide +kernel
theorem dX4_init_29 : decode cX4_init 29 = .ok (.aload_n 0, 1) := by decide +kernel
theorem dX4_init_30 : decode cX4_init 30 = .ok (.bipush 12, 2) := by decide +kernel
theorem dX4_init_32 : decode cX4_init 32 = .ok (.newarray .int, 2) := by decide +kernel
theorem dX4_init_34 : decode cX4_init 34 = .ok (.putfield 19, 3) := by decide +kernel
theorem dX4_init_37 : decode cX4_init 37 = .ok (.aload_n 0, 1) := by decide +kernel
theorem dX4_init_38 : decode cX4_init 38 = .ok (.bipush 12, 2) := by decide +kernel
theorem dX4_init_40 : decode cX4_init 40 = .ok (.newarray .int, 2) := by decide +kernel
theorem dX4_init_42 : decode cX4_init 42 = .ok (.putfield 22, 3) := by decide +kernel
theorem dX4_init_45 : decode cX4_init 45 = .ok (.aload_n 0, 1) := by decide +kernel
theorem dX4_init_46 : decode cX4_init 46 = .ok (.bipush 12, 2) := by decide +kernel
theorem dX4_init_48 : decode cX4_init 48 = .ok (.newarray .int, 2) := by decide +kernel
theorem dX4_init_50 : decode cX4_init 50 = .ok (.putfield 25, 3) := by decide +kernel
theorem dX4_init_53 : decode cX4_init 53 = .ok (.aload_n 0, 1) := by decide +kernel
theorem dX4_init_54 : decode cX4_init 54 = .ok (.bipush 12, 2) := by decide +kernel
theorem dX4_init_56 : decode cX4_init 56 = .ok (.newarray .int, 2) := by decide +kernel
theorem dX4_init_58 : decode cX4_init 58 = .ok (.putfield 28, 3) := by decide +kernel
theorem dX4_init_61 : decode cX4_init 61 = .ok (.aload_n 0, 1) := by decide +kernel
theorem dX4_init_62 : decode cX4_init 62 = .ok (.bipush 12, 2) := by decide +kernel
theorem dX4_init_64 : decode cX4_init 64 = .ok (.newarray .boolean, 2) := by decide +kernel
theorem dX4_init_66 : decode cX4_init 66 = .ok (.putfield 31, 3) := by decide +kernel
theorem dX4_init_69 : decode cX4_init 69 = .ok (.aload_n 0, 1) := by decide +kernel
theorem dX4_init_70 : decode cX4_init 70 = .ok (.bipush 10, 2) := by decide +kernel
theorem dX4_init_72 : decode cX4_init 72 = .ok (.newarray .int, 2) := by decide +kernel
theorem dX4_init_74 : decode cX4_init 74 = .ok (.putfield 35, 3) := by decide +kernel
theorem dX4_init_77 : decode cX4_init 77 = .ok (.return_, 1) := by decide +kernel
theorem dX4_in_0 : decode cX4_in 0 = .ok (.iload_n 0, 1) := by decide +kernel
theorem dX4_in_1 : decode cX4_in 1 = .ok (.iload_n 1, 1) := by decide +kernel
theorem dX4_in_2 : decode cX4_in 2 = .ok (.if_icmp .lt 12, 3) := by decide +kernel
theorem dX4_in_5 : decode cX4_in 5 = .ok (.iload_n 0, 1) := by decide +kernel
theorem dX4_in_6 : decode cX4_in 6 = .ok (.iload_n 2, 1) := by decide +kernel
theorem dX4_in_7 : decode cX4_in 7 = .ok (.if_icmp .gt 7, 3) := by decide +kernel
theorem dX4_in_10 : decode cX4_in 10 = .ok (.iconst 1, 1) := by decide +kernel
theorem dX4_in_11 : decode cX4_in 11 = .ok (.goto 4, 3) := by decide +kernel
theorem dX4_in_14 : decode cX4_in 14 = .ok (.iconst 0, 1) := by decide +kernel
theorem dX4_in_15 : decode cX4_in 15 = .ok (.ireturn, 1) := by decide +kernel
theorem dX4_error_0 : decode cX4_error 0 = .ok (.aload_n 0, 1) := by decide +kernel
theorem dX4_error_1 : decode cX4_error 1 = .ok (.getfield 16, 3) := by decide +kernel
theorem dX4_error_4 : decode cX4_error 4 = .ok (.sipush (-10002), 3) := by decide +kernel
theorem dX4_error_7 : decode cX4_error 7 = .ok (.iload_n 1, 1) := by decide +kernel
theorem dX4_error_8 : decode cX4_error 8 = .ok (.isub, 1) := by decide +kernel
theorem dX4_error_9 : decode cX4_error 9 = .ok (.dup2, 1) := by decide +kernel
theorem dX4_error_10 : decode cX4_error 10 = .ok (.iaload, 1) := by decide +kernel
theorem dX4_error_11 : decode cX4_error 11 = .ok (.iconst 1, 1) := by decide +kernel
theorem dX4_error_12 : decode cX4_error 12 = .ok (.iadd, 1) := by decide +kernel
theorem dX4_error_13 : decode cX4_error 13 = .ok (.iastore, 1) := by decide +kernel
theorem dX4_error_14 : decode cX4_error 14 = .ok (.iload_n 1, 1) := by decide +kernel
theorem dX4_error_15 : decode cX4_error 15 = .ok (.ireturn, 1) := by decide +kernel
theorem dX4_at_0 : decode cX4_at 0 = .ok (.bipush 17, 2) := by decide +kernel
theorem dX4_at_2 : decode cX4_at 2 = .ok (.bipush 10, 2) := by decide +kernel
theorem dX4_at_4 : decode cX4_at 4 = .ok (.iload_n 0, 1) := by decide +kernel
theorem dX4_at_5 : decode cX4_at 5 = .ok (.imul, 1) := by decide +kernel
theorem dX4_at_6 : decode cX4_at 6 = .ok (.iadd, 1) := by decide +kernel
theorem dX4_at_7 : decode cX4_at 7 = .ok (.iload_n 1, 1) := by decide +kernel
theorem dX4_at_8 : decode cX4_at 8 = .ok (.iadd, 1) := by decide +kernel
theorem dX4_at_9 : decode cX4_at 9 = .ok (.ireturn, 1) := by decide +kernel
theorem dX4_get_0 : decode cX4_get 0 = .ok (.aload_n 0, 1) := by decide +kernel
theorem dX4_get_1 : decode cX4_get 1 = .ok (.getfield 7, 3) := by decide +kernel
theorem dX4_get_4 : decode cX4_get 4 = .ok (.iload_n 1, 1) := by decide +kernel
theorem dX4_get_5 : decode cX4_get 5 = .ok (.iload_n 2, 1) := by decide +kernel
theorem dX4_get_6 : decode cX4_get 6 = .ok (.invokestatic 38, 3) := by decide +kernel
theorem dX4_get_9 : decode cX4_get 9 = .ok (.iaload, 1) := by decide +kernel
theorem dX4_get_10 : decode cX4_get 10 = .ok (.ireturn, 1) := by decide +kernel
theorem dX4_isCell_0 : decode cX4_isCell 0 = .ok (.iload_n 1, 1) := by decide +kernel
theorem dX4_isCell_1 : decode cX4_isCell 1 = .ok (.iconst 0, 1) := by decide +kernel
theorem dX4_isCell_2 : decode cX4_isCell 2 = .ok (.aload_n 0, 1) := by decide +kernel
theorem dX4_isCell_3 : decode cX4_isCell 3 = .ok (.getfield 7, 3) := by decide +kernel
theorem dX4_isCell_6 : decode cX4_isCell 6 = .ok (.iconst 0, 1) := by decide +kernel
theorem dX4_isCell_7 : decode cX4_isCell 7 = .ok (.iaload, 1) := by decide +kernel
theorem dX4_isCell_8 : decode cX4_isCell 8 = .ok (.iconst 1, 1) := by decide +kernel
theorem dX4_isCell_9 : decode cX4_isCell 9 = .ok (.isub, 1) := by decide +kernel
theorem dX4_isCell_10 : decode cX4_isCell 10 = .ok (.invokestatic 42, 3) := by decide +kernel
theorem dX4_isCell_13 : decode cX4_isCell 13 = .ok (.ireturn, 1) := by decide +kernel
theorem dX4_save_0 : decode cX4_save 0 = .ok (.aload_n 0, 1) := by decide +kernel
theorem dX4_save_1 : decode cX4_save 1 = .ok (.getfield 46, 3) := by decide +kernel
theorem dX4_save_4 : decode cX4_save 4 = .ok (.iconst 4, 1) := by decide +kernel
theorem dX4_save_5 : decode cX4_save 5 = .ok (.if_icmp .ne 44, 3) := by decide +kernel
theorem dX4_save_8 : decode cX4_save 8 = .ok (.iconst 0, 1) := by decide +kernel
theorem dX4_save_9 : decode cX4_save 9 = .ok (.istore_n 1, 1) := by decide +kernel
theorem dX4_save_10 : decode cX4_save 10 = .ok (.iload_n 1, 1) := by decide +kernel
theorem dX4_save_11 : decode cX4_save 11 = .ok (.sipush 411, 3) := by decide +kernel
theorem dX4_save_14 : decode cX4_save 14 = .ok (.if_icmp .ge 25, 3) := by decide +kernel
theorem dX4_save_17 : decode cX4_save 17 = .ok (.aload_n 0, 1) := by decide +kernel
theorem dX4_save_18 : decode cX4_save 18 = .ok (.getfield 13, 3) := by decide +kernel
theorem dX4_save_21 : decode cX4_save 21 = .ok (.iload_n 1, 1) := by decide +kernel
theorem dX4_save_22 : decode cX4_save 22 = .ok (.aload_n 0, 1) := by decide +kernel
theorem dX4_save_23 : decode cX4_save 23 = .ok (.getfield 13, 3) := by decide +kernel
theorem dX4_save_26 : decode cX4_save 26 = .ok (.iload_n 1, 1) := by decide +kernel
theorem dX4_save_27 : decode cX4_save 27 = .ok (.sipush 137, 3) := by decide +kernel
theorem dX4_save_30 : decode cX4_save 30 = .ok (.iadd, 1) := by decide +kernel
theorem dX4_save_31 : decode cX4_save 31 = .ok (.iaload, 1) := by decide +kernel
theorem dX4_save_32 : decode cX4_save 32 = .ok (.iastore, 1) := by decide +kernel
theorem dX4_save_33 : decode cX4_save 33 = .ok (.iinc 1 1, 3) := by decide +kernel
theorem dX4_save_36 : decode cX4_save 36 = .ok (.goto (-26), 3) := by decide +kernel
theorem dX4_save_39 : decode cX4_save 39 = .ok (.aload_n 0, 1) := by decide +kernel
theorem dX4_save_40 : decode cX4_save 40 = .ok (.dup, 1) := by decide +kernel
theorem dX4_save_41 : decode cX4_save 41 = .ok (.getfield 46, 3) := by decide +kernel
theorem dX4_save_44 : decode cX4_save 44 = .ok (.iconst 1, 1) := by decide +kernel
theorem dX4_save_45 : decode cX4_save 45 = .ok (.isub, 1) := by decide +kernel
theorem dX4_save_46 : decode cX4_save 46 = .ok (.putfield 46, 3) := by decide +kernel
theorem dX4_save_49 : decode cX4_save 49 = .ok (.iconst 0, 1) := by decide +kernel
theorem dX4_save_50 : decode cX4_save 50 = .ok (.istore_n 1, 1) := by decide +kernel
theorem dX4_save_51 : decode cX4_save 51 = .ok (.iload_n 1, 1) := by decide +kernel
theorem dX4_save_52 : decode cX4_save 52 = .ok (.sipush 137, 3) := by decide +kernel
theorem dX4_save_55 : decode cX4_save 55 = .ok (.if_icmp .ge 30, 3) := by decide +kernel
theorem dX4_save_58 : decode cX4_save 58 = .ok (.aload_n 0, 1) := by decide +kernel
theorem dX4_save_59 : decode cX4_save 59 = .ok (.getfield 13, 3) := by decide +kernel
theorem dX4_save_62 : decode cX4_save 62 = .ok (.sipush 137, 3) := by decide +kernel
theorem dX4_save_65 : decode cX4_save 65 = .ok (.aload_n 0, 1) := by decide +kernel
theorem dX4_save_66 : decode cX4_save 66 = .ok (.getfield 46, 3) := by decide +kernel
theorem dX4_save_69 : decode cX4_save 69 = .ok (.imul, 1) := by decide +kernel
theorem dX4_save_70 : decode cX4_save 70 = .ok (.iload_n 1, 1) := by decide +kernel
theorem dX4_save_71 : decode cX4_save 71 = .ok (.iadd, 1) := by decide +kernel
theorem dX4_save_72 : decode cX4_save 72 = .ok (.aload_n 0, 1) := by decide +kernel
theorem dX4_save_73 : decode cX4_save 73 = .ok (.getfield 7, 3) := by decide +kernel
theorem dX4_save_76 : decode cX4_save 76 = .ok (.iload_n 1, 1) := by decide +kernel
theorem dX4_save_77 : decode cX4_save 77 = .ok (.iaload, 1) := by decide +kernel
theorem dX4_save_78 : decode cX4_save 78 = .ok (.iastore, 1) := by decide +kernel
theorem dX4_save_79 : decode cX4_save 79 = .ok (.iinc 1 1, 3) := by decide +kernel
theorem dX4_save_82 : decode cX4_save 82 = .ok (.goto (-31), 3) := by decide +kernel
theorem dX4_save_85 : decode cX4_save 85 = .ok (.aload_n 0, 1) := by decide +kernel
theorem dX4_save_86 : decode cX4_save 86 = .ok (.dup, 1) := by decide +kernel
theorem dX4_save_87 : decode cX4_save 87 = .ok (.getfield 46, 3) := by decide +kernel
theorem dX4_save_90 : decode cX4_save 90 = .ok (.iconst 1, 1) := by decide +kernel
theorem dX4_save_91 : decode cX4_save 91 = .ok (.iadd, 1) := by decide +kernel
theorem dX4_save_92 : decode cX4_save 92 = .ok (.putfield 46, 3) := by decide +kernel
theorem dX4_save_95 : decode cX4_save 95 = .ok (.aload_n 0, 1) := by decide +kernel
theorem dX4_save_96 : decode cX4_save 96 = .ok (.getfield 7, 3) := by decide +kernel
theorem dX4_save_99 : decode cX4_save 99 = .ok (.iconst 4, 1) := by decide +kernel
theorem dX4_save_100 : decode cX4_save 100 = .ok (.iconst 0, 1) := by decide +kernel
theorem dX4_save_101 : decode cX4_save 101 = .ok (.iastore, 1) := by decide +kernel
theorem dX4_save_102 : decode cX4_save 102 = .ok (.return_, 1) := by decide +kernel
theorem dX4_definersOf_0 : decode cX4_definersOf 0 = .ok (.iconst 0, 1) := by decide +kernel
theorem dX4_definersOf_1 : decode cX4_definersOf 1 = .ok (.istore_n 2, 1) := by decide +kernel
theorem dX4_definersOf_2 : decode cX4_definersOf 2 = .ok (.iconst 0, 1) := by decide +kernel
theorem dX4_definersOf_3 : decode cX4_definersOf 3 = .ok (.istore_n 3, 1) := by decide +kernel
theorem dX4_definersOf_4 : decode cX4_definersOf 4 = .ok (.iload_n 3, 1) := by decide +kernel
theorem dX4_definersOf_5 : decode cX4_definersOf 5 = .ok (.aload_n 0, 1) := by decide +kernel
theorem dX4_definersOf_6 : decode cX4_definersOf 6 = .ok (.getfield 7, 3) := by decide +kernel
theorem dX4_definersOf_9 : decode cX4_definersOf 9 = .ok (.iconst 0, 1) := by decide +kernel
theorem dX4_definersOf_10 : decode cX4_definersOf 10 = .ok (.iaload, 1) := by decide +kernel
theorem dX4_definersOf_11 : decode cX4_definersOf 11 = .ok (.if_icmp .ge 29, 3) := by decide +kernel
theorem dX4_definersOf_14 : decode cX4_definersOf 14 = .ok (.iload_n 2, 1) := by decide +kernel
theorem dX4_definersOf_15 : decode cX4_definersOf 15 = .ok (.aload_n 0, 1) := by decide +kernel
theorem dX4_definersOf_16 : decode cX4_definersOf 16 = .ok (.iload_n 3, 1) := by decide +kernel
theorem dX4_definersOf_17 : decode cX4_definersOf 17 = .ok (.iconst 0, 1) := by decide +kernel
theorem dX4_definersOf_18 : decode cX4_definersOf 18 = .ok (.invokevirtual 50, 3) := by decide +kernel
theorem dX4_definersOf_21 : decode cX4_definersOf 21 = .ok (.iload_n 1, 1) := by decide +kernel
theorem dX4_definersOf_22 : decode cX4_definersOf 22 = .ok (.if_icmp .ne 9, 3) := by decide +kernel
theorem dX4_definersOf_25 : decode cX4_definersOf 25 = .ok (.iconst 1, 1) := by decide +kernel
theorem dX4_definersOf_26 : decode cX4_definersOf 26 = .ok (.iload_n 3, 1) := by decide +kernel
theorem dX4_definersOf_27 : decode cX4_definersOf 27 = .ok (.ishl, 1) := by decide +kernel
theorem dX4_definersOf_28 : decode cX4_definersOf 28 = .ok (.goto 4, 3) := by decide +kernel
theorem dX4_definersOf_31 : decode cX4_definersOf 31 = .ok (.iconst 0, 1) := by decide +kernel
theorem dX4_definersOf_32 : decode cX4_definersOf 32 = .ok (.ior, 1) := by decide +kernel
theorem dX4_definersOf_33 : decode cX4_definersOf 33 = .ok (.istore_n 2, 1) := by decide +kernel
theorem dX4_definersOf_34 : decode cX4_definersOf 34 = .ok (.iinc 3 1, 3) := by decide +kernel
theorem dX4_definersOf_37 : decode cX4_definersOf 37 = .ok (.goto (-33), 3) := by decide +kernel
theorem dX4_definersOf_40 : decode cX4_definersOf 40 = .ok (.iload_n 2, 1) := by decide +kernel
theorem dX4_definersOf_41 : decode cX4_definersOf 41 = .ok (.ireturn, 1) := by decide +kernel
theorem dX4_only_0 : decode cX4_only 0 = .ok (.iconst 0, 1) := by decide +kernel
theorem dX4_only_1 : decode cX4_only 1 = .ok (.istore_n 1, 1) := by decide +kernel
theorem dX4_only_2 : decode cX4_only 2 = .ok (.iload_n 1, 1) := by decide +kernel
theorem dX4_only_3 : decode cX4_only 3 = .ok (.bipush 12, 2) := by decide +kernel
theorem dX4_only_5 : decode cX4_only 5 = .ok (.if_icmp .ge 18, 3) := by decide +kernel
theorem dX4_only_8 : decode cX4_only 8 = .ok (.iload_n 0, 1) := by decide +kernel
theorem dX4_only_9 : decode cX4_only 9 = .ok (.iconst 1, 1) := by decide +kernel
theorem dX4_only_10 : decode cX4_only 10 = .ok (.iload_n 1, 1) := by decide +kernel
theorem dX4_only_11 : decode cX4_only 11 = .ok (.ishl, 1) := by decide +kernel
theorem dX4_only_12 : decode cX4_only 12 = .ok (.if_icmp .ne 5, 3) := by decide +kernel
theorem dX4_only_15 : decode cX4_only 15 = .ok (.iload_n 1, 1) := by decide +kernel
theorem dX4_only_16 : decode cX4_only 16 = .ok (.ireturn, 1) := by decide +kernel
theorem dX4_only_17 : decode cX4_only 17 = .ok (.iinc 1 1, 3) := by decide +kernel
theorem dX4_only_20 : decode cX4_only 20 = .ok (.goto (-18), 3) := by decide +kernel
theorem dX4_only_23 : decode cX4_only 23 = .ok (.sipush (-10001), 3) := by decide +kernel
theorem dX4_only_26 : decode cX4_only 26 = .ok (.ireturn, 1) := by decide +kernel
theorem dX4_source_0 : decode cX4_source 0 = .ok (.iload_n 1, 1) := by decide +kernel
theorem dX4_source_1 : decode cX4_source 1 = .ok (.bipush 100, 2) := by decide +kernel
theorem dX4_source_3 : decode cX4_source 3 = .ok (.if_icmp .ge 9, 3) := by decide +kernel
theorem dX4_source_6 : decode cX4_source 6 = .ok (.sipush (-10001), 3) := by decide +kernel
theorem dX4_source_9 : decode cX4_source 9 = .ok (.goto 14, 3) := by decide +kernel
theorem dX4_source_12 : decode cX4_source 12 = .ok (.aload_n 0, 1) := by decide +kernel
theorem dX4_source_13 : decode cX4_source 13 = .ok (.iload_n 1, 1) := by decide +kernel
theorem dX4_source_14 : decode cX4_source 14 = .ok (.bipush 100, 2) := by decide +kernel
theorem dX4_source_16 : decode cX4_source 16 = .ok (.isub, 1) := by decide +kernel
theorem dX4_source_17 : decode cX4_source 17 = .ok (.invokevirtual 53, 3) := by decide +kernel
theorem dX4_source_20 : decode cX4_source 20 = .ok (.invokestatic 57, 3) := by decide +kernel
theorem dX4_source_23 : decode cX4_source 23 = .ok (.ireturn, 1) := by decide +kernel
theorem dX4_isUndefined_0 : decode cX4_isUndefined 0 = .ok (.iload_n 1, 1) := by decide +kernel
theorem dX4_isUndefined_1 : decode cX4_isUndefined 1 = .ok (.bipush 99, 2) := by decide +kernel
theorem dX4_isUndefined_3 : decode cX4_isUndefined 3 = .ok (.if_icmp .le 18, 3) := by decide +kernel
theorem dX4_isUndefined_6 : decode cX4_isUndefined 6 = .ok (.aload_n 0, 1) := by decide +kernel
theorem dX4_isUndefined_7 : decode cX4_isUndefined 7 = .ok (.iload_n 1, 1) := by decide +kernel
theorem dX4_isUndefined_8 : decode cX4_isUndefined 8 = .ok (.bipush 100, 2) := by decide +kernel
theorem dX4_isUndefined_10 : decode cX4_isUndefined 10 = .ok (.isub, 1) := by decide +kernel
theorem dX4_isUndefined_11 : decode cX4_isUndefined 11 = .ok (.invokevirtual 53, 3) := by decide +kernel
theorem dX4_isUndefined_14 : decode cX4_isUndefined 14 = .ok (.ifCond .ne 7, 3) := by decide +kernel
theorem dX4_isUndefined_17 : decode cX4_isUndefined 17 = .ok (.iconst 1, 1) := by decide +kernel
theorem dX4_isUndefined_18 : decode cX4_isUndefined 18 = .ok (.goto 4, 3) := by decide +kernel
theorem dX4_isUndefined_21 : decode cX4_isUndefined 21 = .ok (.iconst 0, 1) := by decide +kernel
theorem dX4_isUndefined_22 : decode cX4_isUndefined 22 = .ok (.ireturn, 1) := by decide +kernel
theorem dX4_isBad_0 : decode cX4_isBad 0 = .ok (.iload_n 1, 1) := by decide +kernel
theorem dX4_isBad_1 : decode cX4_isBad 1 = .ok (.bipush 100, 2) := by decide +kernel
theorem dX4_isBad_3 : decode cX4_isBad 3 = .ok (.if_icmp .ge 7, 3) := by decide +kernel
theorem dX4_isBad_6 : decode cX4_isBad 6 = .ok (.iconst 0, 1) := by decide +kernel
theorem dX4_isBad_7 : decode cX4_isBad 7 = .ok (.goto 11, 3) := by decide +kernel
theorem dX4_isBad_10 : decode cX4_isBad 10 = .ok (.aload_n 0, 1) := by decide +kernel
theorem dX4_isBad_11 : decode cX4_isBad 11 = .ok (.iload_n 1, 1) := by decide +kernel
theorem dX4_isBad_12 : decode cX4_isBad 12 = .ok (.bipush 100, 2) := by decide +kernel
theorem dX4_isBad_14 : decode cX4_isBad 14 = .ok (.isub, 1) := by decide +kernel
theorem dX4_isBad_15 : decode cX4_isBad 15 = .ok (.invokevirtual 53, 3) := by decide +kernel
theorem dX4_isBad_18 : decode cX4_isBad 18 = .ok (.istore_n 2, 1) := by decide +kernel
theorem dX4_isBad_19 : decode cX4_isBad 19 = .ok (.iconst 0, 1) := by decide +kernel
theorem dX4_isBad_20 : decode cX4_isBad 20 = .ok (.istore_n 3, 1) := by decide +kernel
theorem dX4_isBad_21 : decode cX4_isBad 21 = .ok (.iload_n 3, 1) := by decide +kernel
theorem dX4_isBad_22 : decode cX4_isBad 22 = .ok (.aload_n 0, 1) := by decide +kernel
theorem dX4_isBad_23 : decode cX4_isBad 23 = .ok (.getfield 7, 3) := by decide +kernel
theorem dX4_isBad_26 : decode cX4_isBad 26 = .ok (.iconst 0, 1) := by decide +kernel
theorem dX4_isBad_27 : decode cX4_isBad 27 = .ok (.iaload, 1) := by decide +kernel
theorem dX4_isBad_28 : decode cX4_isBad 28 = .ok (.if_icmp .ge 29, 3) := by decide +kernel
theorem dX4_isBad_31 : decode cX4_isBad 31 = .ok (.iload_n 2, 1) := by decide +kernel
theorem dX4_isBad_32 : decode cX4_isBad 32 = .ok (.iload_n 3, 1) := by decide +kernel
theorem dX4_isBad_33 : decode cX4_isBad 33 = .ok (.ishr, 1) := by decide +kernel
theorem dX4_isBad_34 : decode cX4_isBad 34 = .ok (.iconst 1, 1) := by decide +kernel
theorem dX4_isBad_35 : decode cX4_isBad 35 = .ok (.iand, 1) := by decide +kernel
theorem dX4_isBad_36 : decode cX4_isBad 36 = .ok (.iconst 1, 1) := by decide +kernel
theorem dX4_isBad_37 : decode cX4_isBad 37 = .ok (.if_icmp .ne 14, 3) := by decide +kernel
theorem dX4_isBad_40 : decode cX4_isBad 40 = .ok (.aload_n 0, 1) := by decide +kernel
theorem dX4_isBad_41 : decode cX4_isBad 41 = .ok (.getfield 22, 3) := by decide +kernel
theorem dX4_isBad_44 : decode cX4_isBad 44 = .ok (.iload_n 3, 1) := by decide +kernel
theorem dX4_isBad_45 : decode cX4_isBad 45 = .ok (.iaload, 1) := by decide +kernel
theorem dX4_isBad_46 : decode cX4_isBad 46 = .ok (.ifCond .eq 5, 3) := by decide +kernel
theorem dX4_isBad_49 : decode cX4_isBad 49 = .ok (.iconst 1, 1) := by decide +kernel
theorem dX4_isBad_50 : decode cX4_isBad 50 = .ok (.ireturn, 1) := by decide +kernel
theorem dX4_isBad_51 : decode cX4_isBad 51 = .ok (.iinc 3 1, 3) := by decide +kernel
theorem dX4_isBad_54 : decode cX4_isBad 54 = .ok (.goto (-33), 3) := by decide +kernel
