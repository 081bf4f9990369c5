theorem dX4_isBad_57 : decode cX4_isBad 57 = .ok (.iconst 0, 1) := by decide +kernel
theorem dX4_isBad_58 : decode cX4_isBad 58 = .ok (.ireturn, 1) := by decide +kernel
theorem dX4_deriveDependencies_0 : decode cX4_deriveDependencies 0 = .ok (.iconst 0, 1) := by decide +kernel
theorem dX4_deriveDependencies_1 : decode cX4_deriveDependencies 1 = .ok (.istore_n 1, 1) := by decide +kernel
theorem dX4_deriveDependencies_2 : decode cX4_deriveDependencies 2 = .ok (.iload_n 1, 1) := by decide +kernel
theorem dX4_deriveDependencies_3 : decode cX4_deriveDependencies 3 = .ok (.aload_n 0, 1) := by decide +kernel
theorem dX4_deriveDependencies_4 : decode cX4_deriveDependencies 4 = .ok (.getfield 7, 3) := by decide +kernel
theorem dX4_deriveDependencies_7 : decode cX4_deriveDependencies 7 = .ok (.iconst 0, 1) := by decide +kernel
theorem dX4_deriveDependencies_8 : decode cX4_deriveDependencies 8 = .ok (.iaload, 1) := by decide +kernel
theorem dX4_deriveDependencies_9 : decode cX4_deriveDependencies 9 = .ok (.if_icmp .ge 78, 3) := by decide +kernel
theorem dX4_deriveDependencies_12 : decode cX4_deriveDependencies 12 = .ok (.aload_n 0, 1) := by decide +kernel
theorem dX4_deriveDependencies_13 : decode cX4_deriveDependencies 13 = .ok (.aload_n 0, 1) := by decide +kernel
theorem dX4_deriveDependencies_14 : decode cX4_deriveDependencies 14 = .ok (.iload_n 1, 1) := by decide +kernel
theorem dX4_deriveDependencies_15 : decode cX4_deriveDependencies 15 = .ok (.iconst 2, 1) := by decide +kernel
theorem dX4_deriveDependencies_16 : decode cX4_deriveDependencies 16 = .ok (.invokevirtual 50, 3) := by decide +kernel
theorem dX4_deriveDependencies_19 : decode cX4_deriveDependencies 19 = .ok (.invokevirtual 60, 3) := by decide +kernel
theorem dX4_deriveDependencies_22 : decode cX4_deriveDependencies 22 = .ok (.istore_n 2, 1) := by decide +kernel
theorem dX4_deriveDependencies_23 : decode cX4_deriveDependencies 23 = .ok (.aload_n 0, 1) := by decide +kernel
theorem dX4_deriveDependencies_24 : decode cX4_deriveDependencies 24 = .ok (.aload_n 0, 1) := by decide +kernel
theorem dX4_deriveDependencies_25 : decode cX4_deriveDependencies 25 = .ok (.iload_n 1, 1) := by decide +kernel
theorem dX4_deriveDependencies_26 : decode cX4_deriveDependencies 26 = .ok (.iconst 3, 1) := by decide +kernel
theorem dX4_deriveDependencies_27 : decode cX4_deriveDependencies 27 = .ok (.invokevirtual 50, 3) := by decide +kernel
theorem dX4_deriveDependencies_30 : decode cX4_deriveDependencies 30 = .ok (.invokevirtual 60, 3) := by decide +kernel
theorem dX4_deriveDependencies_33 : decode cX4_deriveDependencies 33 = .ok (.istore_n 3, 1) := by decide +kernel
theorem dX4_deriveDependencies_34 : decode cX4_deriveDependencies 34 = .ok (.aload_n 0, 1) := by decide +kernel
theorem dX4_deriveDependencies_35 : decode cX4_deriveDependencies 35 = .ok (.getfield 19, 3) := by decide +kernel
theorem dX4_deriveDependencies_38 : decode cX4_deriveDependencies 38 = .ok (.iload_n 1, 1) := by decide +kernel
theorem dX4_deriveDependencies_39 : decode cX4_deriveDependencies 39 = .ok (.iload_n 2, 1) := by decide +kernel
theorem dX4_deriveDependencies_40 : decode cX4_deriveDependencies 40 = .ok (.sipush (-10001), 3) := by decide +kernel
theorem dX4_deriveDependencies_43 : decode cX4_deriveDependencies 43 = .ok (.if_icmp .ne 7, 3) := by decide +kernel
theorem dX4_deriveDependencies_46 : decode cX4_deriveDependencies 46 = .ok (.iconst 0, 1) := by decide +kernel
theorem dX4_deriveDependencies_47 : decode cX4_deriveDependencies 47 = .ok (.goto 6, 3) := by decide +kernel
theorem dX4_deriveDependencies_50 : decode cX4_deriveDependencies 50 = .ok (.iconst 1, 1) := by decide +kernel
theorem dX4_deriveDependencies_51 : decode cX4_deriveDependencies 51 = .ok (.iload_n 2, 1) := by decide +kernel
theorem dX4_deriveDependencies_52 : decode cX4_deriveDependencies 52 = .ok (.ishl, 1) := by decide +kernel
theorem dX4_deriveDependencies_53 : decode cX4_deriveDependencies 53 = .ok (.iload_n 3, 1) := by decide +kernel
theorem dX4_deriveDependencies_54 : decode cX4_deriveDependencies 54 = .ok (.sipush (-10001), 3) := by decide +kernel
theorem dX4_deriveDependencies_57 : decode cX4_deriveDependencies 57 = .ok (.if_icmp .ne 7, 3) := by decide +kernel
theorem dX4_deriveDependencies_60 : decode cX4_deriveDependencies 60 = .ok (.iconst 0, 1) := by decide +kernel
theorem dX4_deriveDependencies_61 : decode cX4_deriveDependencies 61 = .ok (.goto 6, 3) := by decide +kernel
theorem dX4_deriveDependencies_64 : decode cX4_deriveDependencies 64 = .ok (.iconst 1, 1) := by decide +kernel
theorem dX4_deriveDependencies_65 : decode cX4_deriveDependencies 65 = .ok (.iload_n 3, 1) := by decide +kernel
theorem dX4_deriveDependencies_66 : decode cX4_deriveDependencies 66 = .ok (.ishl, 1) := by decide +kernel
theorem dX4_deriveDependencies_67 : decode cX4_deriveDependencies 67 = .ok (.ior, 1) := by decide +kernel
theorem dX4_deriveDependencies_68 : decode cX4_deriveDependencies 68 = .ok (.iastore, 1) := by decide +kernel
theorem dX4_deriveDependencies_69 : decode cX4_deriveDependencies 69 = .ok (.aload_n 0, 1) := by decide +kernel
theorem dX4_deriveDependencies_70 : decode cX4_deriveDependencies 70 = .ok (.getfield 25, 3) := by decide +kernel
theorem dX4_deriveDependencies_73 : decode cX4_deriveDependencies 73 = .ok (.iload_n 1, 1) := by decide +kernel
theorem dX4_deriveDependencies_74 : decode cX4_deriveDependencies 74 = .ok (.aload_n 0, 1) := by decide +kernel
theorem dX4_deriveDependencies_75 : decode cX4_deriveDependencies 75 = .ok (.getfield 19, 3) := by decide +kernel
theorem dX4_deriveDependencies_78 : decode cX4_deriveDependencies 78 = .ok (.iload_n 1, 1) := by decide +kernel
theorem dX4_deriveDependencies_79 : decode cX4_deriveDependencies 79 = .ok (.iaload, 1) := by decide +kernel
theorem dX4_deriveDependencies_80 : decode cX4_deriveDependencies 80 = .ok (.iastore, 1) := by decide +kernel
theorem dX4_deriveDependencies_81 : decode cX4_deriveDependencies 81 = .ok (.iinc 1 1, 3) := by decide +kernel
theorem dX4_deriveDependencies_84 : decode cX4_deriveDependencies 84 = .ok (.goto (-82), 3) := by decide +kernel
theorem dX4_deriveDependencies_87 : decode cX4_deriveDependencies 87 = .ok (.iconst 0, 1) := by decide +kernel
theorem dX4_deriveDependencies_88 : decode cX4_deriveDependencies 88 = .ok (.istore_n 1, 1) := by decide +kernel
theorem dX4_deriveDependencies_89 : decode cX4_deriveDependencies 89 = .ok (.iload_n 1, 1) := by decide +kernel
theorem dX4_deriveDependencies_90 : decode cX4_deriveDependencies 90 = .ok (.aload_n 0, 1) := by decide +kernel
theorem dX4_deriveDependencies_91 : decode cX4_deriveDependencies 91 = .ok (.getfield 7, 3) := by decide +kernel
theorem dX4_deriveDependencies_94 : decode cX4_deriveDependencies 94 = .ok (.iconst 0, 1) := by decide +kernel
theorem dX4_deriveDependencies_95 : decode cX4_deriveDependencies 95 = .ok (.iaload, 1) := by decide +kernel
theorem dX4_deriveDependencies_96 : decode cX4_deriveDependencies 96 = .ok (.if_icmp .ge 78, 3) := by decide +kernel
theorem dX4_deriveDependencies_99 : decode cX4_deriveDependencies 99 = .ok (.iconst 0, 1) := by decide +kernel
theorem dX4_deriveDependencies_100 : decode cX4_deriveDependencies 100 = .ok (.istore_n 2, 1) := by decide +kernel
theorem dX4_deriveDependencies_101 : decode cX4_deriveDependencies 101 = .ok (.iload_n 2, 1) := by decide +kernel
theorem dX4_deriveDependencies_102 : decode cX4_deriveDependencies 102 = .ok (.aload_n 0, 1) := by decide +kernel
theorem dX4_deriveDependencies_103 : decode cX4_deriveDependencies 103 = .ok (.getfield 7, 3) := by decide +kernel
theorem dX4_deriveDependencies_106 : decode cX4_deriveDependencies 106 = .ok (.iconst 0, 1) := by decide +kernel
theorem dX4_deriveDependencies_107 : decode cX4_deriveDependencies 107 = .ok (.iaload, 1) := by decide +kernel
theorem dX4_deriveDependencies_108 : decode cX4_deriveDependencies 108 = .ok (.if_icmp .ge 60, 3) := by decide +kernel
theorem dX4_deriveDependencies_111 : decode cX4_deriveDependencies 111 = .ok (.iconst 0, 1) := by decide +kernel
theorem dX4_deriveDependencies_112 : decode cX4_deriveDependencies 112 = .ok (.istore_n 3, 1) := by decide +kernel
theorem dX4_deriveDependencies_113 : decode cX4_deriveDependencies 113 = .ok (.iload_n 3, 1) := by decide +kernel
theorem dX4_deriveDependencies_114 : decode cX4_deriveDependencies 114 = .ok (.aload_n 0, 1) := by decide +kernel
theorem dX4_deriveDependencies_115 : decode cX4_deriveDependencies 115 = .ok (.getfield 7, 3) := by decide +kernel
theorem dX4_deriveDependencies_118 : decode cX4_deriveDependencies 118 = .ok (.iconst 0, 1) := by decide +kernel
theorem dX4_deriveDependencies_119 : decode cX4_deriveDependencies 119 = .ok (.iaload, 1) := by decide +kernel
theorem dX4_deriveDependencies_120 : decode cX4_deriveDependencies 120 = .ok (.if_icmp .ge 42, 3) := by decide +kernel
theorem dX4_deriveDependencies_123 : decode cX4_deriveDependencies 123 = .ok (.aload_n 0, 1) := by decide +kernel
theorem dX4_deriveDependencies_124 : decode cX4_deriveDependencies 124 = .ok (.getfield 25, 3) := by decide +kernel
theorem dX4_deriveDependencies_127 : decode cX4_deriveDependencies 127 = .ok (.iload_n 2, 1) := by decide +kernel
theorem dX4_deriveDependencies_128 : decode cX4_deriveDependencies 128 = .ok (.dup2, 1) := by decide +kernel
theorem dX4_deriveDependencies_129 : decode cX4_deriveDependencies 129 = .ok (.iaload, 1) := by decide +kernel
theorem dX4_deriveDependencies_130 : decode cX4_deriveDependencies 130 = .ok (.aload_n 0, 1) := by decide +kernel
theorem dX4_deriveDependencies_131 : decode cX4_deriveDependencies 131 = .ok (.getfield 25, 3) := by decide +kernel
theorem dX4_deriveDependencies_134 : decode cX4_deriveDependencies 134 = .ok (.iload_n 2, 1) := by decide +kernel
theorem dX4_deriveDependencies_135 : decode cX4_deriveDependencies 135 = .ok (.iaload, 1) := by decide +kernel
theorem dX4_deriveDependencies_136 : decode cX4_deriveDependencies 136 = .ok (.iload_n 3, 1) := by decide +kernel
theorem dX4_deriveDependencies_137 : decode cX4_deriveDependencies 137 = .ok (.ishr, 1) := by decide +kernel
theorem dX4_deriveDependencies_138 : decode cX4_deriveDependencies 138 = .ok (.iconst 1, 1) := by decide +kernel
theorem dX4_deriveDependencies_139 : decode cX4_deriveDependencies 139 = .ok (.iand, 1) := by decide +kernel
theorem dX4_deriveDependencies_140 : decode cX4_deriveDependencies 140 = .ok (.iconst 1, 1) := by decide +kernel
theorem dX4_deriveDependencies_141 : decode cX4_deriveDependencies 141 = .ok (.if_icmp .ne 12, 3) := by decide +kernel
theorem dX4_deriveDependencies_144 : decode cX4_deriveDependencies 144 = .ok (.aload_n 0, 1) := by decide +kernel
theorem dX4_deriveDependencies_145 : decode cX4_deriveDependencies 145 = .ok (.getfield 25, 3) := by decide +kernel
theorem dX4_deriveDependencies_148 : decode cX4_deriveDependencies 148 = .ok (.iload_n 3, 1) := by decide +kernel
theorem dX4_deriveDependencies_149 : decode cX4_deriveDependencies 149 = .ok (.iaload, 1) := by decide +kernel
theorem dX4_deriveDependencies_150 : decode cX4_deriveDependencies 150 = .ok (.goto 4, 3) := by decide +kernel
theorem dX4_deriveDependencies_153 : decode cX4_deriveDependencies 153 = .ok (.iconst 0, 1) := by decide +kernel
theorem dX4_deriveDependencies_154 : decode cX4_deriveDependencies 154 = .ok (.ior, 1) := by decide +kernel
theorem dX4_deriveDependencies_155 : decode cX4_deriveDependencies 155 = .ok (.iastore, 1) := by decide +kernel
theorem dX4_deriveDependencies_156 : decode cX4_deriveDependencies 156 = .ok (.iinc 3 1, 3) := by decide +kernel
theorem dX4_deriveDependencies_159 : decode cX4_deriveDependencies 159 = .ok (.goto (-46), 3) := by decide +kernel
theorem dX4_deriveDependencies_162 : decode cX4_deriveDependencies 162 = .ok (.iinc 2 1, 3) := by decide +kernel
theorem dX4_deriveDependencies_165 : decode cX4_deriveDependencies 165 = .ok (.goto (-64), 3) := by decide +kernel
theorem dX4_deriveDependencies_168 : decode cX4_deriveDependencies 168 = .ok (.iinc 1 1, 3) := by decide +kernel
theorem dX4_deriveDependencies_171 : decode cX4_deriveDependencies 171 = .ok (.goto (-82), 3) := by decide +kernel
theorem dX4_deriveDependencies_174 : decode cX4_deriveDependencies 174 = .ok (.return_, 1) := by decide +kernel
theorem dX4_deriveErrors_0 : decode cX4_deriveErrors 0 = .ok (.iconst 0, 1) := by decide +kernel
theorem dX4_deriveErrors_1 : decode cX4_deriveErrors 1 = .ok (.istore_n 1, 1) := by decide +kernel
theorem dX4_deriveErrors_2 : decode cX4_deriveErrors 2 = .ok (.iload_n 1, 1) := by decide +kernel
theorem dX4_deriveErrors_3 : decode cX4_deriveErrors 3 = .ok (.aload_n 0, 1) := by decide +kernel
theorem dX4_deriveErrors_4 : decode cX4_deriveErrors 4 = .ok (.getfield 7, 3) := by decide +kernel
theorem dX4_deriveErrors_7 : decode cX4_deriveErrors 7 = .ok (.iconst 0, 1) := by decide +kernel
theorem dX4_deriveErrors_8 : decode cX4_deriveErrors 8 = .ok (.iaload, 1) := by decide +kernel
theorem dX4_deriveErrors_9 : decode cX4_deriveErrors 9 = .ok (.if_icmp .ge 104, 3) := by decide +kernel
theorem dX4_deriveErrors_12 : decode cX4_deriveErrors 12 = .ok (.aload_n 0, 1) := by decide +kernel
theorem dX4_deriveErrors_13 : decode cX4_deriveErrors 13 = .ok (.aload_n 0, 1) := by decide +kernel
theorem dX4_deriveErrors_14 : decode cX4_deriveErrors 14 = .ok (.iload_n 1, 1) := by decide +kernel
theorem dX4_deriveErrors_15 : decode cX4_deriveErrors 15 = .ok (.iconst 0, 1) := by decide +kernel
theorem dX4_deriveErrors_16 : decode cX4_deriveErrors 16 = .ok (.invokevirtual 50, 3) := by decide +kernel
theorem dX4_deriveErrors_19 : decode cX4_deriveErrors 19 = .ok (.invokevirtual 53, 3) := by decide +kernel
theorem dX4_deriveErrors_22 : decode cX4_deriveErrors 22 = .ok (.iconst 1, 1) := by decide +kernel
theorem dX4_deriveErrors_23 : decode cX4_deriveErrors 23 = .ok (.iload_n 1, 1) := by decide +kernel
theorem dX4_deriveErrors_24 : decode cX4_deriveErrors 24 = .ok (.ishl, 1) := by decide +kernel
theorem dX4_deriveErrors_25 : decode cX4_deriveErrors 25 = .ok (.if_icmp .eq 7, 3) := by decide +kernel
theorem dX4_deriveErrors_28 : decode cX4_deriveErrors 28 = .ok (.iconst 1, 1) := by decide +kernel
theorem dX4_deriveErrors_29 : decode cX4_deriveErrors 29 = .ok (.goto 4, 3) := by decide +kernel
theorem dX4_deriveErrors_32 : decode cX4_deriveErrors 32 = .ok (.iconst 0, 1) := by decide +kernel
theorem dX4_deriveErrors_33 : decode cX4_deriveErrors 33 = .ok (.istore_n 2, 1) := by decide +kernel
theorem dX4_deriveErrors_34 : decode cX4_deriveErrors 34 = .ok (.aload_n 0, 1) := by decide +kernel
theorem dX4_deriveErrors_35 : decode cX4_deriveErrors 35 = .ok (.aload_n 0, 1) := by decide +kernel
theorem dX4_deriveErrors_36 : decode cX4_deriveErrors 36 = .ok (.iload_n 1, 1) := by decide +kernel
theorem dX4_deriveErrors_37 : decode cX4_deriveErrors 37 = .ok (.iconst 2, 1) := by decide +kernel
theorem dX4_deriveErrors_38 : decode cX4_deriveErrors 38 = .ok (.invokevirtual 50, 3) := by decide +kernel
theorem dX4_deriveErrors_41 : decode cX4_deriveErrors 41 = .ok (.invokevirtual 63, 3) := by decide +kernel
theorem dX4_deriveErrors_44 : decode cX4_deriveErrors 44 = .ok (.ifCond .ne 16, 3) := by decide +kernel
theorem dX4_deriveErrors_47 : decode cX4_deriveErrors 47 = .ok (.aload_n 0, 1) := by decide +kernel
theorem dX4_deriveErrors_48 : decode cX4_deriveErrors 48 = .ok (.aload_n 0, 1) := by decide +kernel
theorem dX4_deriveErrors_49 : decode cX4_deriveErrors 49 = .ok (.iload_n 1, 1) := by decide +kernel
theorem dX4_deriveErrors_50 : decode cX4_deriveErrors 50 = .ok (.iconst 3, 1) := by decide +kernel
theorem dX4_deriveErrors_51 : decode cX4_deriveErrors 51 = .ok (.invokevirtual 50, 3) := by decide +kernel
theorem dX4_deriveErrors_54 : decode cX4_deriveErrors 54 = .ok (.invokevirtual 63, 3) := by decide +kernel
theorem dX4_deriveErrors_57 : decode cX4_deriveErrors 57 = .ok (.ifCond .eq 7, 3) := by decide +kernel
theorem dX4_deriveErrors_60 : decode cX4_deriveErrors 60 = .ok (.iconst 1, 1) := by decide +kernel
theorem dX4_deriveErrors_61 : decode cX4_deriveErrors 61 = .ok (.goto 4, 3) := by decide +kernel
theorem dX4_deriveErrors_64 : decode cX4_deriveErrors 64 = .ok (.iconst 0, 1) := by decide +kernel
theorem dX4_deriveErrors_65 : decode cX4_deriveErrors 65 = .ok (.istore_n 3, 1) := by decide +kernel
theorem dX4_deriveErrors_66 : decode cX4_deriveErrors 66 = .ok (.aload_n 0, 1) := by decide +kernel
theorem dX4_deriveErrors_67 : decode cX4_deriveErrors 67 = .ok (.getfield 22, 3) := by decide +kernel
theorem dX4_deriveErrors_70 : decode cX4_deriveErrors 70 = .ok (.iload_n 1, 1) := by decide +kernel
theorem dX4_deriveErrors_71 : decode cX4_deriveErrors 71 = .ok (.iload_n 2, 1) := by decide +kernel
theorem dX4_deriveErrors_72 : decode cX4_deriveErrors 72 = .ok (.ifCond .eq 7, 3) := by decide +kernel
theorem dX4_deriveErrors_75 : decode cX4_deriveErrors 75 = .ok (.iconst 2, 1) := by decide +kernel
theorem dX4_deriveErrors_76 : decode cX4_deriveErrors 76 = .ok (.goto 30, 3) := by decide +kernel
theorem dX4_deriveErrors_79 : decode cX4_deriveErrors 79 = .ok (.aload_n 0, 1) := by decide +kernel
theorem dX4_deriveErrors_80 : decode cX4_deriveErrors 80 = .ok (.getfield 25, 3) := by decide +kernel
theorem dX4_deriveErrors_83 : decode cX4_deriveErrors 83 = .ok (.iload_n 1, 1) := by decide +kernel
theorem dX4_deriveErrors_84 : decode cX4_deriveErrors 84 = .ok (.iaload, 1) := by decide +kernel
theorem dX4_deriveErrors_85 : decode cX4_deriveErrors 85 = .ok (.iload_n 1, 1) := by decide +kernel
theorem dX4_deriveErrors_86 : decode cX4_deriveErrors 86 = .ok (.ishr, 1) := by decide +kernel
theorem dX4_deriveErrors_87 : decode cX4_deriveErrors 87 = .ok (.iconst 1, 1) := by decide +kernel
theorem dX4_deriveErrors_88 : decode cX4_deriveErrors 88 = .ok (.iand, 1) := by decide +kernel
theorem dX4_deriveErrors_89 : decode cX4_deriveErrors 89 = .ok (.iconst 1, 1) := by decide +kernel
theorem dX4_deriveErrors_90 : decode cX4_deriveErrors 90 = .ok (.if_icmp .ne 7, 3) := by decide +kernel
theorem dX4_deriveErrors_93 : decode cX4_deriveErrors 93 = .ok (.iconst 3, 1) := by decide +kernel
theorem dX4_deriveErrors_94 : decode cX4_deriveErrors 94 = .ok (.goto 12, 3) := by decide +kernel
theorem dX4_deriveErrors_97 : decode cX4_deriveErrors 97 = .ok (.iload_n 3, 1) := by decide +kernel
theorem dX4_deriveErrors_98 : decode cX4_deriveErrors 98 = .ok (.ifCond .eq 7, 3) := by decide +kernel
theorem dX4_deriveErrors_101 : decode cX4_deriveErrors 101 = .ok (.iconst 4, 1) := by decide +kernel
theorem dX4_deriveErrors_102 : decode cX4_deriveErrors 102 = .ok (.goto 4, 3) := by decide +kernel
theorem dX4_deriveErrors_105 : decode cX4_deriveErrors 105 = .ok (.iconst 0, 1) := by decide +kernel
theorem dX4_deriveErrors_106 : decode cX4_deriveErrors 106 = .ok (.iastore, 1) := by decide +kernel
theorem dX4_deriveErrors_107 : decode cX4_deriveErrors 107 = .ok (.iinc 1 1, 3) := by decide +kernel
theorem dX4_deriveErrors_110 : decode cX4_deriveErrors 110 = .ok (.goto (-108), 3) := by decide +kernel
theorem dX4_deriveErrors_113 : decode cX4_deriveErrors 113 = .ok (.iconst 0, 1) := by decide +kernel
theorem dX4_deriveErrors_114 : decode cX4_deriveErrors 114 = .ok (.istore_n 1, 1) := by decide +kernel
theorem dX4_deriveErrors_115 : decode cX4_deriveErrors 115 = .ok (.iload_n 1, 1) := by decide +kernel
theorem dX4_deriveErrors_116 : decode cX4_deriveErrors 116 = .ok (.aload_n 0, 1) := by decide +kernel
theorem dX4_deriveErrors_117 : decode cX4_deriveErrors 117 = .ok (.getfield 7, 3) := by decide +kernel
theorem dX4_deriveErrors_120 : decode cX4_deriveErrors 120 = .ok (.iconst 0, 1) := by decide +kernel
theorem dX4_deriveErrors_121 : decode cX4_deriveErrors 121 = .ok (.iaload, 1) := by decide +kernel
theorem dX4_deriveErrors_122 : decode cX4_deriveErrors 122 = .ok (.if_icmp .ge 69, 3) := by decide +kernel
theorem dX4_deriveErrors_125 : decode cX4_deriveErrors 125 = .ok (.iconst 0, 1) := by decide +kernel
theorem dX4_deriveErrors_126 : decode cX4_deriveErrors 126 = .ok (.istore_n 2, 1) := by decide +kernel
theorem dX4_deriveErrors_127 : decode cX4_deriveErrors 127 = .ok (.iload_n 2, 1) := by decide +kernel
theorem dX4_deriveErrors_128 : decode cX4_deriveErrors 128 = .ok (.aload_n 0, 1) := by decide +kernel
theorem dX4_deriveErrors_129 : decode cX4_deriveErrors 129 = .ok (.getfield 7, 3) := by decide +kernel
theorem dX4_deriveErrors_132 : decode cX4_deriveErrors 132 = .ok (.iconst 0, 1) := by decide +kernel
theorem dX4_deriveErrors_133 : decode cX4_deriveErrors 133 = .ok (.iaload, 1) := by decide +kernel
theorem dX4_deriveErrors_134 : decode cX4_deriveErrors 134 = .ok (.if_icmp .ge 51, 3) := by decide +kernel
theorem dX4_deriveErrors_137 : decode cX4_deriveErrors 137 = .ok (.aload_n 0, 1) := by decide +kernel
theorem dX4_deriveErrors_138 : decode cX4_deriveErrors 138 = .ok (.getfield 22, 3) := by decide +kernel
theorem dX4_deriveErrors_141 : decode cX4_deriveErrors 141 = .ok (.iload_n 2, 1) := by decide +kernel
theorem dX4_deriveErrors_142 : decode cX4_deriveErrors 142 = .ok (.iaload, 1) := by decide +kernel
theorem dX4_deriveErrors_143 : decode cX4_deriveErrors 143 = .ok (.ifCond .ne 36, 3) := by decide +kernel
theorem dX4_deriveErrors_146 : decode cX4_deriveErrors 146 = .ok (.aload_n 0, 1) := by decide +kernel
theorem dX4_deriveErrors_147 : decode cX4_deriveErrors 147 = .ok (.aload_n 0, 1) := by decide +kernel
theorem dX4_deriveErrors_148 : decode cX4_deriveErrors 148 = .ok (.iload_n 2, 1) := by decide +kernel
theorem dX4_deriveErrors_149 : decode cX4_deriveErrors 149 = .ok (.iconst 2, 1) := by decide +kernel
theorem dX4_deriveErrors_150 : decode cX4_deriveErrors 150 = .ok (.invokevirtual 50, 3) := by decide +kernel
theorem dX4_deriveErrors_153 : decode cX4_deriveErrors 153 = .ok (.invokevirtual 67, 3) := by decide +kernel
theorem dX4_deriveErrors_156 : decode cX4_deriveErrors 156 = .ok (.ifCond .ne 16, 3) := by decide +kernel
theorem dX4_deriveErrors_159 : decode cX4_deriveErrors 159 = .ok (.aload_n 0, 1) := by decide +kernel
theorem dX4_deriveErrors_160 : decode cX4_deriveErrors 160 = .ok (.aload_n 0, 1) := by decide +kernel
theorem dX4_deriveErrors_161 : decode cX4_deriveErrors 161 = .ok (.iload_n 2, 1) := by decide +kernel
theorem dX4_deriveErrors_162 : decode cX4_deriveErrors 162 = .ok (.iconst 3, 1) := by decide +kernel
theorem dX4_deriveErrors_163 : decode cX4_deriveErrors 163 = .ok (.invokevirtual 50, 3) := by decide +kernel
theorem dX4_deriveErrors_166 : decode cX4_deriveErrors 166 = .ok (.invokevirtual 67, 3) := by decide +kernel
theorem dX4_deriveErrors_169 : decode cX4_deriveErrors 169 = .ok (.ifCond .eq 10, 3) := by decide +kernel
theorem dX4_deriveErrors_172 : decode cX4_deriveErrors 172 = .ok (.aload_n 0, 1) := by decide +kernel
theorem dX4_deriveErrors_173 : decode cX4_deriveErrors 173 = .ok (.getfield 22, 3) := by decide +kernel
theorem dX4_deriveErrors_176 : decode cX4_deriveErrors 176 = .ok (.iload_n 2, 1) := by decide +kernel
theorem dX4_deriveErrors_177 : decode cX4_deriveErrors 177 = .ok (.iconst 5, 1) := by decide +kernel
theorem dX4_deriveErrors_178 : decode cX4_deriveErrors 178 = .ok (.iastore, 1) := by decide +kernel
theorem dX4_deriveErrors_179 : decode cX4_deriveErrors 179 = .ok (.iinc 2 1, 3) := by decide +kernel
theorem dX4_deriveErrors_182 : decode cX4_deriveErrors 182 = .ok (.goto (-55), 3) := by decide +kernel
theorem dX4_deriveErrors_185 : decode cX4_deriveErrors 185 = .ok (.iinc 1 1, 3) := by decide +kernel
theorem dX4_deriveErrors_188 : decode cX4_deriveErrors 188 = .ok (.goto (-73), 3) := by decide +kernel
theorem dX4_deriveErrors_191 : decode cX4_deriveErrors 191 = .ok (.return_, 1) := by decide +kernel
theorem dX4_deriveOrder_0 : decode cX4_deriveOrder 0 = .ok (.aload_n 0, 1) := by decide +kernel
theorem dX4_deriveOrder_1 : decode cX4_deriveOrder 1 = .ok (.iconst 0, 1) := by decide +kernel
theorem dX4_deriveOrder_2 : decode cX4_deriveOrder 2 = .ok (.putfield 70, 3) := by decide +kernel
theorem dX4_deriveOrder_5 : decode cX4_deriveOrder 5 = .ok (.iconst 0, 1) := by decide +kernel
theorem dX4_deriveOrder_6 : decode cX4_deriveOrder 6 = .ok (.istore_n 1, 1) := by decide +kernel
theorem dX4_deriveOrder_7 : decode cX4_deriveOrder 7 = .ok (.iconst 1, 1) := by decide +kernel
theorem dX4_deriveOrder_8 : decode cX4_deriveOrder 8 = .ok (.istore_n 2, 1) := by decide +kernel
theorem dX4_deriveOrder_9 : decode cX4_deriveOrder 9 = .ok (.iload_n 2, 1) := by decide +kernel
theorem dX4_deriveOrder_10 : decode cX4_deriveOrder 10 = .ok (.ifCond .eq 88, 3) := by decide +kernel
theorem dX4_deriveOrder_13 : decode cX4_deriveOrder 13 = .ok (.iconst 0, 1) := by decide +kernel
theorem dX4_deriveOrder_14 : decode cX4_deriveOrder 14 = .ok (.istore_n 2, 1) := by decide +kernel
theorem dX4_deriveOrder_15 : decode cX4_deriveOrder 15 = .ok (.iconst 0, 1) := by decide +kernel
theorem dX4_deriveOrder_16 : decode cX4_deriveOrder 16 = .ok (.istore_n 3, 1) := by decide +kernel
theorem dX4_deriveOrder_17 : decode cX4_deriveOrder 17 = .ok (.iload_n 3, 1) := by decide +kernel
theorem dX4_deriveOrder_18 : decode cX4_deriveOrder 18 = .ok (.aload_n 0, 1) := by decide +kernel
theorem dX4_deriveOrder_19 : decode cX4_deriveOrder 19 = .ok (.getfield 7, 3) := by decide +kernel
theorem dX4_deriveOrder_22 : decode cX4_deriveOrder 22 = .ok (.iconst 0, 1) := by decide +kernel
theorem dX4_deriveOrder_23 : decode cX4_deriveOrder 23 = .ok (.iaload, 1) := by decide +kernel
theorem dX4_deriveOrder_24 : decode cX4_deriveOrder 24 = .ok (.if_icmp .ge 71, 3) := by decide +kernel
theorem dX4_deriveOrder_27 : decode cX4_deriveOrder 27 = .ok (.iload_n 2, 1) := by decide +kernel
theorem dX4_deriveOrder_28 : decode cX4_deriveOrder 28 = .ok (.ifCond .ne 67, 3) := by decide +kernel
theorem dX4_deriveOrder_31 : decode cX4_deriveOrder 31 = .ok (.aload_n 0, 1) := by decide +kernel
theorem dX4_deriveOrder_32 : decode cX4_deriveOrder 32 = .ok (.getfield 22, 3) := by decide +kernel
theorem dX4_deriveOrder_35 : decode cX4_deriveOrder 35 = .ok (.iload_n 3, 1) := by decide +kernel
theorem dX4_deriveOrder_36 : decode cX4_deriveOrder 36 = .ok (.iaload, 1) := by decide +kernel
theorem dX4_deriveOrder_37 : decode cX4_deriveOrder 37 = .ok (.ifCond .ne 52, 3) := by decide +kernel
theorem dX4_deriveOrder_40 : decode cX4_deriveOrder 40 = .ok (.iload_n 1, 1) := by decide +kernel
theorem dX4_deriveOrder_41 : decode cX4_deriveOrder 41 = .ok (.iload_n 3, 1) := by decide +kernel
theorem dX4_deriveOrder_42 : decode cX4_deriveOrder 42 = .ok (.ishr, 1) := by decide +kernel
theorem dX4_deriveOrder_43 : decode cX4_deriveOrder 43 = .ok (.iconst 1, 1) := by decide +kernel
theorem dX4_deriveOrder_44 : decode cX4_deriveOrder 44 = .ok (.iand, 1) := by decide +kernel
theorem dX4_deriveOrder_45 : decode cX4_deriveOrder 45 = .ok (.ifCond .ne 44, 3) := by decide +kernel
theorem dX4_deriveOrder_48 : decode cX4_deriveOrder 48 = .ok (.aload_n 0, 1) := by decide +kernel
theorem dX4_deriveOrder_49 : decode cX4_deriveOrder 49 = .ok (.getfield 19, 3) := by decide +kernel
theorem dX4_deriveOrder_52 : decode cX4_deriveOrder 52 = .ok (.iload_n 3, 1) := by decide +kernel
theorem dX4_deriveOrder_53 : decode cX4_deriveOrder 53 = .ok (.iaload, 1) := by decide +kernel
theorem dX4_deriveOrder_54 : decode cX4_deriveOrder 54 = .ok (.iload_n 1, 1) := by decide +kernel
theorem dX4_deriveOrder_55 : decode cX4_deriveOrder 55 = .ok (.iconst (-1), 1) := by decide +kernel
theorem dX4_deriveOrder_56 : decode cX4_deriveOrder 56 = .ok (.ixor, 1) := by decide +kernel
theorem dX4_deriveOrder_57 : decode cX4_deriveOrder 57 = .ok (.iand, 1) := by decide +kernel
theorem dX4_deriveOrder_58 : decode cX4_deriveOrder 58 = .ok (.ifCond .ne 31, 3) := by decide +kernel
theorem dX4_deriveOrder_61 : decode cX4_deriveOrder 61 = .ok (.aload_n 0, 1) := by decide +kernel
theorem dX4_deriveOrder_62 : decode cX4_deriveOrder 62 = .ok (.getfield 28, 3) := by decide +kernel
theorem dX4_deriveOrder_65 : decode cX4_deriveOrder 65 = .ok (.aload_n 0, 1) := by decide +kernel
theorem dX4_deriveOrder_66 : decode cX4_deriveOrder 66 = .ok (.getfield 70, 3) := by decide +kernel
theorem dX4_deriveOrder_69 : decode cX4_deriveOrder 69 = .ok (.iload_n 3, 1) := by decide +kernel
theorem dX4_deriveOrder_70 : decode cX4_deriveOrder 70 = .ok (.iastore, 1) := by decide +kernel
theorem dX4_deriveOrder_71 : decode cX4_deriveOrder 71 = .ok (.aload_n 0, 1) := by decide +kernel
theorem dX4_deriveOrder_72 : decode cX4_deriveOrder 72 = .ok (.dup, 1) := by decide +kernel
theorem dX4_deriveOrder_73 : decode cX4_deriveOrder 73 = .ok (.getfield 70, 3) := by decide +kernel
theorem dX4_deriveOrder_76 : decode cX4_deriveOrder 76 = .ok (.iconst 1, 1) := by decide +kernel
theorem dX4_deriveOrder_77 : decode cX4_deriveOrder 77 = .ok (.iadd, 1) := by decide +kernel
theorem dX4_deriveOrder_78 : decode cX4_deriveOrder 78 = .ok (.putfield 70, 3) := by decide +kernel
theorem dX4_deriveOrder_81 : decode cX4_deriveOrder 81 = .ok (.iload_n 1, 1) := by decide +kernel
theorem dX4_deriveOrder_82 : decode cX4_deriveOrder 82 = .ok (.iconst 1, 1) := by decide +kernel
theorem dX4_deriveOrder_83 : decode cX4_deriveOrder 83 = .ok (.iload_n 3, 1) := by decide +kernel
theorem dX4_deriveOrder_84 : decode cX4_deriveOrder 84 = .ok (.ishl, 1) := by decide +kernel
theorem dX4_deriveOrder_85 : decode cX4_deriveOrder 85 = .ok (.ior, 1) := by decide +kernel
theorem dX4_deriveOrder_86 : decode cX4_deriveOrder 86 = .ok (.istore_n 1, 1) := by decide +kernel
theorem dX4_deriveOrder_87 : decode cX4_deriveOrder 87 = .ok (.iconst 1, 1) := by decide +kernel
theorem dX4_deriveOrder_88 : decode cX4_deriveOrder 88 = .ok (.istore_n 2, 1) := by decide +kernel
theorem dX4_deriveOrder_89 : decode cX4_deriveOrder 89 = .ok (.iinc 3 1, 3) := by decide +kernel
theorem dX4_deriveOrder_92 : decode cX4_deriveOrder 92 = .ok (.goto (-75), 3) := by decide +kernel
theorem dX4_deriveOrder_95 : decode cX4_deriveOrder 95 = .ok (.goto (-86), 3) := by decide +kernel
theorem dX4_deriveOrder_98 : decode cX4_deriveOrder 98 = .ok (.return_, 1) := by decide +kernel
theorem dX4_isKnown_0 : decode cX4_isKnown 0 = .ok (.iload_n 1, 1) := by decide +kernel
theorem dX4_isKnown_1 : decode cX4_isKnown 1 = .ok (.bipush 100, 2) := by decide +kernel
theorem dX4_isKnown_3 : decode cX4_isKnown 3 = .ok (.if_icmp .ge 5, 3) := by decide +kernel
theorem dX4_isKnown_6 : decode cX4_isKnown 6 = .ok (.iconst 1, 1) := by decide +kernel
theorem dX4_isKnown_7 : decode cX4_isKnown 7 = .ok (.ireturn, 1) := by decide +kernel
theorem dX4_isKnown_8 : decode cX4_isKnown 8 = .ok (.aload_n 0, 1) := by decide +kernel
theorem dX4_isKnown_9 : decode cX4_isKnown 9 = .ok (.iload_n 1, 1) := by decide +kernel
theorem dX4_isKnown_10 : decode cX4_isKnown 10 = .ok (.invokevirtual 60, 3) := by decide +kernel
theorem dX4_isKnown_13 : decode cX4_isKnown 13 = .ok (.istore_n 3, 1) := by decide +kernel
theorem dX4_isKnown_14 : decode cX4_isKnown 14 = .ok (.aload_n 0, 1) := by decide +kernel
theorem dX4_isKnown_15 : decode cX4_isKnown 15 = .ok (.getfield 31, 3) := by decide +kernel
theorem dX4_isKnown_18 : decode cX4_isKnown 18 = .ok (.iload_n 3, 1) := by decide +kernel
theorem dX4_isKnown_19 : decode cX4_isKnown 19 = .ok (.baload, 1) := by decide +kernel
theorem dX4_isKnown_20 : decode cX4_isKnown 20 = .ok (.ifCond .eq 17, 3) := by decide +kernel
theorem dX4_isKnown_23 : decode cX4_isKnown 23 = .ok (.aload_n 0, 1) := by decide +kernel
theorem dX4_isKnown_24 : decode cX4_isKnown 24 = .ok (.iload_n 3, 1) := by decide +kernel
theorem dX4_isKnown_25 : decode cX4_isKnown 25 = .ok (.iconst 5, 1) := by decide +kernel
theorem dX4_isKnown_26 : decode cX4_isKnown 26 = .ok (.invokevirtual 50, 3) := by decide +kernel
theorem dX4_isKnown_29 : decode cX4_isKnown 29 = .ok (.iload_n 2, 1) := by decide +kernel
theorem dX4_isKnown_30 : decode cX4_isKnown 30 = .ok (.if_icmp .ne 7, 3) := by decide +kernel
theorem dX4_isKnown_33 : decode cX4_isKnown 33 = .ok (.iconst 1, 1) := by decide +kernel
theorem dX4_isKnown_34 : decode cX4_isKnown 34 = .ok (.goto 4, 3) := by decide +kernel
theorem dX4_isKnown_37 : decode cX4_isKnown 37 = .ok (.iconst 0, 1) := by decide +kernel
theorem dX4_isKnown_38 : decode cX4_isKnown 38 = .ok (.ireturn, 1) := by decide +kernel
theorem dX4_isFreshNow_0 : decode cX4_isFreshNow 0 = .ok (.aload_n 0, 1) := by decide +kernel
theorem dX4_isFreshNow_1 : decode cX4_isFreshNow 1 = .ok (.iload_n 1, 1) := by decide +kernel
theorem dX4_isFreshNow_2 : decode cX4_isFreshNow 2 = .ok (.iconst 5, 1) := by decide +kernel
theorem dX4_isFreshNow_3 : decode cX4_isFreshNow 3 = .ok (.invokevirtual 50, 3) := by decide +kernel
theorem dX4_isFreshNow_6 : decode cX4_isFreshNow 6 = .ok (.ifCond .le 47, 3) := by decide +kernel
theorem dX4_isFreshNow_9 : decode cX4_isFreshNow 9 = .ok (.aload_n 0, 1) := by decide +kernel
theorem dX4_isFreshNow_10 : decode cX4_isFreshNow 10 = .ok (.aload_n 0, 1) := by decide +kernel
theorem dX4_isFreshNow_11 : decode cX4_isFreshNow 11 = .ok (.iload_n 1, 1) := by decide +kernel
theorem dX4_isFreshNow_12 : decode cX4_isFreshNow 12 = .ok (.iconst 2, 1) := by decide +kernel
theorem dX4_isFreshNow_13 : decode cX4_isFreshNow 13 = .ok (.invokevirtual 50, 3) := by decide +kernel
theorem dX4_isFreshNow_16 : decode cX4_isFreshNow 16 = .ok (.aload_n 0, 1) := by decide +kernel
theorem dX4_isFreshNow_17 : decode cX4_isFreshNow 17 = .ok (.iload_n 1, 1) := by decide +kernel
theorem dX4_isFreshNow_18 : decode cX4_isFreshNow 18 = .ok (.bipush 6, 2) := by decide +kernel
theorem dX4_isFreshNow_20 : decode cX4_isFreshNow 20 = .ok (.invokevirtual 50, 3) := by decide +kernel
theorem dX4_isFreshNow_23 : decode cX4_isFreshNow 23 = .ok (.invokevirtual 73, 3) := by decide +kernel
theorem dX4_isFreshNow_26 : decode cX4_isFreshNow 26 = .ok (.ifCond .eq 27, 3) := by decide +kernel
theorem dX4_isFreshNow_29 : decode cX4_isFreshNow 29 = .ok (.aload_n 0, 1) := by decide +kernel
theorem dX4_isFreshNow_30 : decode cX4_isFreshNow 30 = .ok (.aload_n 0, 1) := by decide +kernel
theorem dX4_isFreshNow_31 : decode cX4_isFreshNow 31 = .ok (.iload_n 1, 1) := by decide +kernel
theorem dX4_isFreshNow_32 : decode cX4_isFreshNow 32 = .ok (.iconst 3, 1) := by decide +kernel
theorem dX4_isFreshNow_33 : decode cX4_isFreshNow 33 = .ok (.invokevirtual 50, 3) := by decide +kernel
theorem dX4_isFreshNow_36 : decode cX4_isFreshNow 36 = .ok (.aload_n 0, 1) := by decide +kernel
theorem dX4_isFreshNow_37 : decode cX4_isFreshNow 37 = .ok (.iload_n 1, 1) := by decide +kernel
theorem dX4_isFreshNow_38 : decode cX4_isFreshNow 38 = .ok (.bipush 7, 2) := by decide +kernel
theorem dX4_isFreshNow_40 : decode cX4_isFreshNow 40 = .ok (.invokevirtual 50, 3) := by decide +kernel
theorem dX4_isFreshNow_43 : decode cX4_isFreshNow 43 = .ok (.invokevirtual 73, 3) := by decide +kernel
theorem dX4_isFreshNow_46 : decode cX4_isFreshNow 46 = .ok (.ifCond .eq 7, 3) := by decide +kernel
theorem dX4_isFreshNow_49 : decode cX4_isFreshNow 49 = .ok (.iconst 1, 1) := by decide +kernel
theorem dX4_isFreshNow_50 : decode cX4_isFreshNow 50 = .ok (.goto 4, 3) := by decide +kernel
theorem dX4_isFreshNow_53 : decode cX4_isFreshNow 53 = .ok (.iconst 0, 1) := by decide +kernel
theorem dX4_isFreshNow_54 : decode cX4_isFreshNow 54 = .ok (.ireturn, 1) := by decide +kernel
theorem dX4_derive_0 : decode cX4_derive 0 = .ok (.aload_n 0, 1) := by decide +kernel
theorem dX4_derive_1 : decode cX4_derive 1 = .ok (.invokevirtual 77, 3) := by decide +kernel
theorem dX4_derive_4 : decode cX4_derive 4 = .ok (.aload_n 0, 1) := by decide +kernel
theorem dX4_derive_5 : decode cX4_derive 5 = .ok (.invokevirtual 80, 3) := by decide +kernel
theorem dX4_derive_8 : decode cX4_derive 8 = .ok (.aload_n 0, 1) := by decide +kernel
theorem dX4_derive_9 : decode cX4_derive 9 = .ok (.invokevirtual 83, 3) := by decide +kernel
theorem dX4_derive_12 : decode cX4_derive 12 = .ok (.iconst 0, 1) := by decide +kernel
theorem dX4_derive_13 : decode cX4_derive 13 = .ok (.istore_n 1, 1) := by decide +kernel
theorem dX4_derive_14 : decode cX4_derive 14 = .ok (.iload_n 1, 1) := by decide +kernel
theorem dX4_derive_15 : decode cX4_derive 15 = .ok (.aload_n 0, 1) := by decide +kernel
theorem dX4_derive_16 : decode cX4_derive 16 = .ok (.getfield 7, 3) := by decide +kernel
theorem dX4_derive_19 : decode cX4_derive 19 = .ok (.iconst 0, 1) := by decide +kernel
theorem dX4_derive_20 : decode cX4_derive 20 = .ok (.iaload, 1) := by decide +kernel
theorem dX4_derive_21 : decode cX4_derive 21 = .ok (.if_icmp .ge 16, 3) := by decide +kernel
theorem dX4_derive_24 : decode cX4_derive 24 = .ok (.aload_n 0, 1) := by decide +kernel
theorem dX4_derive_25 : decode cX4_derive 25 = .ok (.getfield 31, 3) := by decide +kernel
theorem dX4_derive_28 : decode cX4_derive 28 = .ok (.iload_n 1, 1) := by decide +kernel
theorem dX4_derive_29 : decode cX4_derive 29 = .ok (.iconst 0, 1) := by decide +kernel
theorem dX4_derive_30 : decode cX4_derive 30 = .ok (.bastore, 1) := by decide +kernel
theorem dX4_derive_31 : decode cX4_derive 31 = .ok (.iinc 1 1, 3) := by decide +kernel
theorem dX4_derive_34 : decode cX4_derive 34 = .ok (.goto (-20), 3) := by decide +kernel
theorem dX4_derive_37 : decode cX4_derive 37 = .ok (.iconst 0, 1) := by decide +kernel
theorem dX4_derive_38 : decode cX4_derive 38 = .ok (.istore_n 1, 1) := by decide +kernel
theorem dX4_derive_39 : decode cX4_derive 39 = .ok (.iload_n 1, 1) := by decide +kernel
theorem dX4_derive_40 : decode cX4_derive 40 = .ok (.aload_n 0, 1) := by decide +kernel
theorem dX4_derive_41 : decode cX4_derive 41 = .ok (.getfield 70, 3) := by decide +kernel
theorem dX4_derive_44 : decode cX4_derive 44 = .ok (.if_icmp .ge 30, 3) := by decide +kernel
theorem dX4_derive_47 : decode cX4_derive 47 = .ok (.aload_n 0, 1) := by decide +kernel
theorem dX4_derive_48 : decode cX4_derive 48 = .ok (.getfield 31, 3) := by decide +kernel
theorem dX4_derive_51 : decode cX4_derive 51 = .ok (.aload_n 0, 1) := by decide +kernel
theorem dX4_derive_52 : decode cX4_derive 52 = .ok (.getfield 28, 3) := by decide +kernel
theorem dX4_derive_55 : decode cX4_derive 55 = .ok (.iload_n 1, 1) := by decide +kernel
theorem dX4_derive_56 : decode cX4_derive 56 = .ok (.iaload, 1) := by decide +kernel
theorem dX4_derive_57 : decode cX4_derive 57 = .ok (.aload_n 0, 1) := by decide +kernel
theorem dX4_derive_58 : decode cX4_derive 58 = .ok (.aload_n 0, 1) := by decide +kernel
theorem dX4_derive_59 : decode cX4_derive 59 = .ok (.getfield 28, 3) := by decide +kernel
theorem dX4_derive_62 : decode cX4_derive 62 = .ok (.iload_n 1, 1) := by decide +kernel
theorem dX4_derive_63 : decode cX4_derive 63 = .ok (.iaload, 1) := by decide +kernel
theorem dX4_derive_64 : decode cX4_derive 64 = .ok (.invokevirtual 86, 3) := by decide +kernel
theorem dX4_derive_67 : decode cX4_derive 67 = .ok (.bastore, 1) := by decide +kernel
theorem dX4_derive_68 : decode cX4_derive 68 = .ok (.iinc 1 1, 3) := by decide +kernel
theorem dX4_derive_71 : decode cX4_derive 71 = .ok (.goto (-32), 3) := by decide +kernel
theorem dX4_derive_74 : decode cX4_derive 74 = .ok (.return_, 1) := by decide +kernel
theorem dX4_operandValue_0 : decode cX4_operandValue 0 = .ok (.iload_n 1, 1) := by decide +kernel
theorem dX4_operandValue_1 : decode cX4_operandValue 1 = .ok (.bipush 100, 2) := by decide +kernel
theorem dX4_operandValue_3 : decode cX4_operandValue 3 = .ok (.if_icmp .ge 5, 3) := by decide +kernel
theorem dX4_operandValue_6 : decode cX4_operandValue 6 = .ok (.iload_n 1, 1) := by decide +kernel
theorem dX4_operandValue_7 : decode cX4_operandValue 7 = .ok (.ireturn, 1) := by decide +kernel
theorem dX4_operandValue_8 : decode cX4_operandValue 8 = .ok (.aload_n 0, 1) := by decide +kernel
theorem dX4_operandValue_9 : decode cX4_operandValue 9 = .ok (.aload_n 0, 1) := by decide +kernel
theorem dX4_operandValue_10 : decode cX4_operandValue 10 = .ok (.iload_n 1, 1) := by decide +kernel
theorem dX4_operandValue_11 : decode cX4_operandValue 11 = .ok (.invokevirtual 60, 3) := by decide +kernel
theorem dX4_operandValue_14 : decode cX4_operandValue 14 = .ok (.iconst 4, 1) := by decide +kernel
theorem dX4_operandValue_15 : decode cX4_operandValue 15 = .ok (.invokevirtual 50, 3) := by decide +kernel
theorem dX4_operandValue_18 : decode cX4_operandValue 18 = .ok (.istore_n 2, 1) := by decide +kernel
theorem dX4_operandValue_19 : decode cX4_operandValue 19 = .ok (.iload_n 2, 1) := by decide +kernel
theorem dX4_operandValue_20 : decode cX4_operandValue 20 = .ok (.sipush 9999, 3) := by decide +kernel
theorem dX4_operandValue_23 : decode cX4_operandValue 23 = .ok (.if_icmp .le 9, 3) := by decide +kernel
theorem dX4_operandValue_26 : decode cX4_operandValue 26 = .ok (.sipush 20000, 3) := by decide +kernel
theorem dX4_operandValue_29 : decode cX4_operandValue 29 = .ok (.goto 4, 3) := by decide +kernel
theorem dX4_operandValue_32 : decode cX4_operandValue 32 = .ok (.iload_n 2, 1) := by decide +kernel
theorem dX4_operandValue_33 : decode cX4_operandValue 33 = .ok (.ireturn, 1) := by decide +kernel
theorem dX4_exact_0 : decode cX4_exact 0 = .ok (.iload_n 1, 1) := by decide +kernel
theorem dX4_exact_1 : decode cX4_exact 1 = .ok (.tableswitch 62 0 4 #[35, 39, 43, 47, 51], 35) := by decide +kernel
theorem dX4_exact_36 : decode cX4_exact 36 = .ok (.iload_n 2, 1) := by decide +kernel
theorem dX4_exact_37 : decode cX4_exact 37 = .ok (.iload_n 3, 1) := by decide +kernel
theorem dX4_exact_38 : decode cX4_exact 38 = .ok (.iadd, 1) := by decide +kernel
theorem dX4_exact_39 : decode cX4_exact 39 = .ok (.ireturn, 1) := by decide +kernel
theorem dX4_exact_40 : decode cX4_exact 40 = .ok (.iload_n 2, 1) := by decide +kernel
theorem dX4_exact_41 : decode cX4_exact 41 = .ok (.iload_n 3, 1) := by decide +kernel
theorem dX4_exact_42 : decode cX4_exact 42 = .ok (.isub, 1) := by decide +kernel
theorem dX4_exact_43 : decode cX4_exact 43 = .ok (.ireturn, 1) := by decide +kernel
theorem dX4_exact_44 : decode cX4_exact 44 = .ok (.iload_n 2, 1) := by decide +kernel
theorem dX4_exact_45 : decode cX4_exact 45 = .ok (.iload_n 3, 1) := by decide +kernel
theorem dX4_exact_46 : decode cX4_exact 46 = .ok (.imul, 1) := by decide +kernel
theorem dX4_exact_47 : decode cX4_exact 47 = .ok (.ireturn, 1) := by decide +kernel
theorem dX4_exact_48 : decode cX4_exact 48 = .ok (.iload_n 2, 1) := by decide +kernel
theorem dX4_exact_49 : decode cX4_exact 49 = .ok (.iload_n 3, 1) := by decide +kernel
theorem dX4_exact_50 : decode cX4_exact 50 = .ok (.idiv, 1) := by decide +kernel
theorem dX4_exact_51 : decode cX4_exact 51 = .ok (.ireturn, 1) := by decide +kernel
theorem dX4_exact_52 : decode cX4_exact 52 = .ok (.iload_n 2, 1) := by decide +kernel
theorem dX4_exact_53 : decode cX4_exact 53 = .ok (.iload_n 3, 1) := by decide +kernel
theorem dX4_exact_54 : decode cX4_exact 54 = .ok (.if_icmp .le 7, 3) := by decide +kernel
theorem dX4_exact_57 : decode cX4_exact 57 = .ok (.iload_n 2, 1) := by decide +kernel
theorem dX4_exact_58 : decode cX4_exact 58 = .ok (.goto 4, 3) := by decide +kernel
theorem dX4_exact_61 : decode cX4_exact 61 = .ok (.iload_n 3, 1) := by decide +kernel
theorem dX4_exact_62 : decode cX4_exact 62 = .ok (.ireturn, 1) := by decide +kernel
theorem dX4_exact_63 : decode cX4_exact 63 = .ok (.iload_n 2, 1) := by decide +kernel
theorem dX4_exact_64 : decode cX4_exact 64 = .ok (.iload_n 3, 1) := by decide +kernel
theorem dX4_exact_65 : decode cX4_exact 65 = .ok (.if_icmp .ge 7, 3) := by decide +kernel
theorem dX4_exact_68 : decode cX4_exact 68 = .ok (.iload_n 2, 1) := by decide +kernel
theorem dX4_exact_69 : decode cX4_exact 69 = .ok (.goto 4, 3) := by decide +kernel
theorem dX4_exact_72 : decode cX4_exact 72 = .ok (.iload_n 3, 1) := by decide +kernel
theorem dX4_exact_73 : decode cX4_exact 73 = .ok (.ireturn, 1) := by decide +kernel
theorem dX4_compute_0 : decode cX4_compute 0 = .ok (.aload_n 0, 1) := by decide +kernel
theorem dX4_compute_1 : decode cX4_compute 1 = .ok (.aload_n 0, 1) := by decide +kernel
theorem dX4_compute_2 : decode cX4_compute 2 = .ok (.iload_n 1, 1) := by decide +kernel
theorem dX4_compute_3 : decode cX4_compute 3 = .ok (.iconst 2, 1) := by decide +kernel
theorem dX4_compute_4 : decode cX4_compute 4 = .ok (.invokevirtual 50, 3) := by decide +kernel
theorem dX4_compute_7 : decode cX4_compute 7 = .ok (.invokevirtual 89, 3) := by decide +kernel
theorem dX4_compute_10 : decode cX4_compute 10 = .ok (.istore_n 2, 1) := by decide +kernel
theorem dX4_compute_11 : decode cX4_compute 11 = .ok (.aload_n 0, 1) := by decide +kernel
theorem dX4_compute_12 : decode cX4_compute 12 = .ok (.aload_n 0, 1) := by decide +kernel
theorem dX4_compute_13 : decode cX4_compute 13 = .ok (.iload_n 1, 1) := by decide +kernel
theorem dX4_compute_14 : decode cX4_compute 14 = .ok (.iconst 3, 1) := by decide +kernel
theorem dX4_compute_15 : decode cX4_compute 15 = .ok (.invokevirtual 50, 3) := by decide +kernel
theorem dX4_compute_18 : decode cX4_compute 18 = .ok (.invokevirtual 89, 3) := by decide +kernel
theorem dX4_compute_21 : decode cX4_compute 21 = .ok (.istore_n 3, 1) := by decide +kernel
theorem dX4_compute_22 : decode cX4_compute 22 = .ok (.iload_n 2, 1) := by decide +kernel
theorem dX4_compute_23 : decode cX4_compute 23 = .ok (.sipush 20000, 3) := by decide +kernel
theorem dX4_compute_26 : decode cX4_compute 26 = .ok (.if_icmp .eq 10, 3) := by decide +kernel
theorem dX4_compute_29 : decode cX4_compute 29 = .ok (.iload_n 3, 1) := by decide +kernel
theorem dX4_compute_30 : decode cX4_compute 30 = .ok (.sipush 20000, 3) := by decide +kernel
theorem dX4_compute_33 : decode cX4_compute 33 = .ok (.if_icmp .ne 7, 3) := by decide +kernel
theorem dX4_compute_36 : decode cX4_compute 36 = .ok (.sipush 20005, 3) := by decide +kernel
theorem dX4_compute_39 : decode cX4_compute 39 = .ok (.ireturn, 1) := by decide +kernel
theorem dX4_compute_40 : decode cX4_compute 40 = .ok (.aload_n 0, 1) := by decide +kernel
theorem dX4_compute_41 : decode cX4_compute 41 = .ok (.iload_n 1, 1) := by decide +kernel
theorem dX4_compute_42 : decode cX4_compute 42 = .ok (.iconst 1, 1) := by decide +kernel
theorem dX4_compute_43 : decode cX4_compute 43 = .ok (.invokevirtual 50, 3) := by decide +kernel
theorem dX4_compute_46 : decode cX4_compute 46 = .ok (.istore 4, 2) := by decide +kernel
theorem dX4_compute_48 : decode cX4_compute 48 = .ok (.iload 4, 2) := by decide +kernel
theorem dX4_compute_50 : decode cX4_compute 50 = .ok (.iconst 3, 1) := by decide +kernel
theorem dX4_compute_51 : decode cX4_compute 51 = .ok (.if_icmp .ne 11, 3) := by decide +kernel
theorem dX4_compute_54 : decode cX4_compute 54 = .ok (.iload_n 3, 1) := by decide +kernel
theorem dX4_compute_55 : decode cX4_compute 55 = .ok (.ifCond .ne 7, 3) := by decide +kernel
theorem dX4_compute_58 : decode cX4_compute 58 = .ok (.sipush 20007, 3) := by decide +kernel
theorem dX4_compute_61 : decode cX4_compute 61 = .ok (.ireturn, 1) := by decide +kernel
theorem dX4_compute_62 : decode cX4_compute 62 = .ok (.aload_n 0, 1) := by decide +kernel
theorem dX4_compute_63 : decode cX4_compute 63 = .ok (.iload 4, 2) := by decide +kernel
theorem dX4_compute_65 : decode cX4_compute 65 = .ok (.iload_n 2, 1) := by decide +kernel
theorem dX4_compute_66 : decode cX4_compute 66 = .ok (.iload_n 3, 1) := by decide +kernel
theorem dX4_compute_67 : decode cX4_compute 67 = .ok (.invokevirtual 92, 3) := by decide +kernel
theorem dX4_compute_70 : decode cX4_compute 70 = .ok (.istore 5, 2) := by decide +kernel
theorem dX4_compute_72 : decode cX4_compute 72 = .ok (.iload 5, 2) := by decide +kernel
theorem dX4_compute_74 : decode cX4_compute 74 = .ok (.sipush (-9999), 3) := by decide +kernel
theorem dX4_compute_77 : decode cX4_compute 77 = .ok (.sipush 9999, 3) := by decide +kernel
theorem dX4_compute_80 : decode cX4_compute 80 = .ok (.invokestatic 42, 3) := by decide +kernel
theorem dX4_compute_83 : decode cX4_compute 83 = .ok (.ifCond .eq 8, 3) := by decide +kernel
theorem dX4_compute_86 : decode cX4_compute 86 = .ok (.iload 5, 2) := by decide +kernel
theorem dX4_compute_88 : decode cX4_compute 88 = .ok (.goto 6, 3) := by decide +kernel
theorem dX4_compute_91 : decode cX4_compute 91 = .ok (.sipush 20006, 3) := by decide +kernel
theorem dX4_compute_94 : decode cX4_compute 94 = .ok (.ireturn, 1) := by decide +kernel
theorem dX4_versionOf_0 : decode cX4_versionOf 0 = .ok (.iload_n 1, 1) := by decide +kernel
theorem dX4_versionOf_1 : decode cX4_versionOf 1 = .ok (.bipush 100, 2) := by decide +kernel
theorem dX4_versionOf_3 : decode cX4_versionOf 3 = .ok (.if_icmp .ge 7, 3) := by decide +kernel
theorem dX4_versionOf_6 : decode cX4_versionOf 6 = .ok (.iconst 0, 1) := by decide +kernel
theorem dX4_versionOf_7 : decode cX4_versionOf 7 = .ok (.goto 13, 3) := by decide +kernel
theorem dX4_versionOf_10 : decode cX4_versionOf 10 = .ok (.aload_n 0, 1) := by decide +kernel
theorem dX4_versionOf_11 : decode cX4_versionOf 11 = .ok (.aload_n 0, 1) := by decide +kernel
theorem dX4_versionOf_12 : decode cX4_versionOf 12 = .ok (.iload_n 1, 1) := by decide +kernel
theorem dX4_versionOf_13 : decode cX4_versionOf 13 = .ok (.invokevirtual 60, 3) := by decide +kernel
theorem dX4_versionOf_16 : decode cX4_versionOf 16 = .ok (.iconst 5, 1) := by decide +kernel
theorem dX4_versionOf_17 : decode cX4_versionOf 17 = .ok (.invokevirtual 50, 3) := by decide +kernel
theorem dX4_versionOf_20 : decode cX4_versionOf 20 = .ok (.ireturn, 1) := by decide +kernel
theorem dX4_runOne_0 : decode cX4_runOne 0 = .ok (.aload_n 0, 1) := by decide +kernel
theorem dX4_runOne_1 : decode cX4_runOne 1 = .ok (.iload_n 1, 1) := by decide +kernel
theorem dX4_runOne_2 : decode cX4_runOne 2 = .ok (.invokevirtual 96, 3) := by decide +kernel
theorem dX4_runOne_5 : decode cX4_runOne 5 = .ok (.istore_n 2, 1) := by decide +kernel
theorem dX4_runOne_6 : decode cX4_runOne 6 = .ok (.aload_n 0, 1) := by decide +kernel
theorem dX4_runOne_7 : decode cX4_runOne 7 = .ok (.iload_n 1, 1) := by decide +kernel
theorem dX4_runOne_8 : decode cX4_runOne 8 = .ok (.iconst 5, 1) := by decide +kernel
theorem dX4_runOne_9 : decode cX4_runOne 9 = .ok (.invokevirtual 50, 3) := by decide +kernel
theorem dX4_runOne_12 : decode cX4_runOne 12 = .ok (.ifCond .eq 13, 3) := by decide +kernel
theorem dX4_runOne_15 : decode cX4_runOne 15 = .ok (.aload_n 0, 1) := by decide +kernel
theorem dX4_runOne_16 : decode cX4_runOne 16 = .ok (.iload_n 1, 1) := by decide +kernel
theorem dX4_runOne_17 : decode cX4_runOne 17 = .ok (.iconst 4, 1) := by decide +kernel
theorem dX4_runOne_18 : decode cX4_runOne 18 = .ok (.invokevirtual 50, 3) := by decide +kernel
theorem dX4_runOne_21 : decode cX4_runOne 21 = .ok (.iload_n 2, 1) := by decide +kernel
theorem dX4_runOne_22 : decode cX4_runOne 22 = .ok (.if_icmp .eq 40, 3) := by decide +kernel
theorem dX4_runOne_25 : decode cX4_runOne 25 = .ok (.aload_n 0, 1) := by decide +kernel
theorem dX4_runOne_26 : decode cX4_runOne 26 = .ok (.getfield 7, 3) := by decide +kernel
theorem dX4_runOne_29 : decode cX4_runOne 29 = .ok (.iconst 2, 1) := by decide +kernel
theorem dX4_runOne_30 : decode cX4_runOne 30 = .ok (.dup2, 1) := by decide +kernel
theorem dX4_runOne_31 : decode cX4_runOne 31 = .ok (.iaload, 1) := by decide +kernel
theorem dX4_runOne_32 : decode cX4_runOne 32 = .ok (.iconst 1, 1) := by decide +kernel
theorem dX4_runOne_33 : decode cX4_runOne 33 = .ok (.iadd, 1) := by decide +kernel
theorem dX4_runOne_34 : decode cX4_runOne 34 = .ok (.iastore, 1) := by decide +kernel
theorem dX4_runOne_35 : decode cX4_runOne 35 = .ok (.aload_n 0, 1) := by decide +kernel
theorem dX4_runOne_36 : decode cX4_runOne 36 = .ok (.getfield 7, 3) := by decide +kernel
theorem dX4_runOne_39 : decode cX4_runOne 39 = .ok (.iload_n 1, 1) := by decide +kernel
theorem dX4_runOne_40 : decode cX4_runOne 40 = .ok (.iconst 4, 1) := by decide +kernel
theorem dX4_runOne_41 : decode cX4_runOne 41 = .ok (.invokestatic 38, 3) := by decide +kernel
theorem dX4_runOne_44 : decode cX4_runOne 44 = .ok (.iload_n 2, 1) := by decide +kernel
theorem dX4_runOne_45 : decode cX4_runOne 45 = .ok (.iastore, 1) := by decide +kernel
theorem dX4_runOne_46 : decode cX4_runOne 46 = .ok (.aload_n 0, 1) := by decide +kernel
theorem dX4_runOne_47 : decode cX4_runOne 47 = .ok (.getfield 7, 3) := by decide +kernel
theorem dX4_runOne_50 : decode cX4_runOne 50 = .ok (.iload_n 1, 1) := by decide +kernel
theorem dX4_runOne_51 : decode cX4_runOne 51 = .ok (.iconst 5, 1) := by decide +kernel
theorem dX4_runOne_52 : decode cX4_runOne 52 = .ok (.invokestatic 38, 3) := by decide +kernel
theorem dX4_runOne_55 : decode cX4_runOne 55 = .ok (.aload_n 0, 1) := by decide +kernel
theorem dX4_runOne_56 : decode cX4_runOne 56 = .ok (.getfield 7, 3) := by decide +kernel
theorem dX4_runOne_59 : decode cX4_runOne 59 = .ok (.iconst 2, 1) := by decide +kernel
theorem dX4_runOne_60 : decode cX4_runOne 60 = .ok (.iaload, 1) := by decide +kernel
theorem dX4_runOne_61 : decode cX4_runOne 61 = .ok (.iastore, 1) := by decide +kernel
theorem dX4_runOne_62 : decode cX4_runOne 62 = .ok (.aload_n 0, 1) := by decide +kernel
theorem dX4_runOne_63 : decode cX4_runOne 63 = .ok (.getfield 7, 3) := by decide +kernel
theorem dX4_runOne_66 : decode cX4_runOne 66 = .ok (.iload_n 1, 1) := by decide +kernel
theorem dX4_runOne_67 : decode cX4_runOne 67 = .ok (.bipush 6, 2) := by decide +kernel
theorem dX4_runOne_69 : decode cX4_runOne 69 = .ok (.invokestatic 38, 3) := by decide +kernel
theorem dX4_runOne_72 : decode cX4_runOne 72 = .ok (.aload_n 0, 1) := by decide +kernel
theorem dX4_runOne_73 : decode cX4_runOne 73 = .ok (.aload_n 0, 1) := by decide +kernel
theorem dX4_runOne_74 : decode cX4_runOne 74 = .ok (.iload_n 1, 1) := by decide +kernel
theorem dX4_runOne_75 : decode cX4_runOne 75 = .ok (.iconst 2, 1) := by decide +kernel
theorem dX4_runOne_76 : decode cX4_runOne 76 = .ok (.invokevirtual 50, 3) := by decide +kernel
theorem dX4_runOne_79 : decode cX4_runOne 79 = .ok (.invokevirtual 99, 3) := by decide +kernel
theorem dX4_runOne_82 : decode cX4_runOne 82 = .ok (.iastore, 1) := by decide +kernel
theorem dX4_runOne_83 : decode cX4_runOne 83 = .ok (.aload_n 0, 1) := by decide +kernel
theorem dX4_runOne_84 : decode cX4_runOne 84 = .ok (.getfield 7, 3) := by decide +kernel
theorem dX4_runOne_87 : decode cX4_runOne 87 = .ok (.iload_n 1, 1) := by decide +kernel
theorem dX4_runOne_88 : decode cX4_runOne 88 = .ok (.bipush 7, 2) := by decide +kernel
theorem dX4_runOne_90 : decode cX4_runOne 90 = .ok (.invokestatic 38, 3) := by decide +kernel
theorem dX4_runOne_93 : decode cX4_runOne 93 = .ok (.aload_n 0, 1) := by decide +kernel
theorem dX4_runOne_94 : decode cX4_runOne 94 = .ok (.aload_n 0, 1) := by decide +kernel
theorem dX4_runOne_95 : decode cX4_runOne 95 = .ok (.iload_n 1, 1) := by decide +kernel
theorem dX4_runOne_96 : decode cX4_runOne 96 = .ok (.iconst 3, 1) := by decide +kernel
theorem dX4_runOne_97 : decode cX4_runOne 97 = .ok (.invokevirtual 50, 3) := by decide +kernel
theorem dX4_runOne_100 : decode cX4_runOne 100 = .ok (.invokevirtual 99, 3) := by decide +kernel
theorem dX4_runOne_103 : decode cX4_runOne 103 = .ok (.iastore, 1) := by decide +kernel
theorem dX4_runOne_104 : decode cX4_runOne 104 = .ok (.aload_n 0, 1) := by decide +kernel
theorem dX4_runOne_105 : decode cX4_runOne 105 = .ok (.getfield 7, 3) := by decide +kernel
theorem dX4_runOne_108 : decode cX4_runOne 108 = .ok (.iload_n 1, 1) := by decide +kernel
theorem dX4_runOne_109 : decode cX4_runOne 109 = .ok (.bipush 8, 2) := by decide +kernel
theorem dX4_runOne_111 : decode cX4_runOne 111 = .ok (.invokestatic 38, 3) := by decide +kernel
theorem dX4_runOne_114 : decode cX4_runOne 114 = .ok (.dup2, 1) := by decide +kernel
theorem dX4_runOne_115 : decode cX4_runOne 115 = .ok (.iaload, 1) := by decide +kernel
theorem dX4_runOne_116 : decode cX4_runOne 116 = .ok (.iconst 1, 1) := by decide +kernel
theorem dX4_runOne_117 : decode cX4_runOne 117 = .ok (.iadd, 1) := by decide +kernel
theorem dX4_runOne_118 : decode cX4_runOne 118 = .ok (.iastore, 1) := by decide +kernel
theorem dX4_runOne_119 : decode cX4_runOne 119 = .ok (.aload_n 0, 1) := by decide +kernel
theorem dX4_runOne_120 : decode cX4_runOne 120 = .ok (.getfield 7, 3) := by decide +kernel
theorem dX4_runOne_123 : decode cX4_runOne 123 = .ok (.iconst 3, 1) := by decide +kernel
theorem dX4_runOne_124 : decode cX4_runOne 124 = .ok (.dup2, 1) := by decide +kernel
theorem dX4_runOne_125 : decode cX4_runOne 125 = .ok (.iaload, 1) := by decide +kernel
theorem dX4_runOne_126 : decode cX4_runOne 126 = .ok (.iconst 1, 1) := by decide +kernel
theorem dX4_runOne_127 : decode cX4_runOne 127 = .ok (.iadd, 1) := by decide +kernel
theorem dX4_runOne_128 : decode cX4_runOne 128 = .ok (.iastore, 1) := by decide +kernel
theorem dX4_runOne_129 : decode cX4_runOne 129 = .ok (.aload_n 0, 1) := by decide +kernel
theorem dX4_runOne_130 : decode cX4_runOne 130 = .ok (.getfield 7, 3) := by decide +kernel
theorem dX4_runOne_133 : decode cX4_runOne 133 = .ok (.iconst 5, 1) := by decide +kernel
theorem dX4_runOne_134 : decode cX4_runOne 134 = .ok (.aload_n 0, 1) := by decide +kernel
theorem dX4_runOne_135 : decode cX4_runOne 135 = .ok (.getfield 7, 3) := by decide +kernel
theorem dX4_runOne_138 : decode cX4_runOne 138 = .ok (.iconst 4, 1) := by decide +kernel
theorem dX4_runOne_139 : decode cX4_runOne 139 = .ok (.iaload, 1) := by decide +kernel
theorem dX4_runOne_140 : decode cX4_runOne 140 = .ok (.iadd, 1) := by decide +kernel
theorem dX4_runOne_141 : decode cX4_runOne 141 = .ok (.iload_n 1, 1) := by decide +kernel
theorem dX4_runOne_142 : decode cX4_runOne 142 = .ok (.iastore, 1) := by decide +kernel
theorem dX4_runOne_143 : decode cX4_runOne 143 = .ok (.aload_n 0, 1) := by decide +kernel
theorem dX4_runOne_144 : decode cX4_runOne 144 = .ok (.getfield 7, 3) := by decide +kernel
theorem dX4_runOne_147 : decode cX4_runOne 147 = .ok (.iconst 4, 1) := by decide +kernel
theorem dX4_runOne_148 : decode cX4_runOne 148 = .ok (.dup2, 1) := by decide +kernel
theorem dX4_runOne_149 : decode cX4_runOne 149 = .ok (.iaload, 1) := by decide +kernel
theorem dX4_runOne_150 : decode cX4_runOne 150 = .ok (.iconst 1, 1) := by decide +kernel
theorem dX4_runOne_151 : decode cX4_runOne 151 = .ok (.iadd, 1) := by decide +kernel
theorem dX4_runOne_152 : decode cX4_runOne 152 = .ok (.iastore, 1) := by decide +kernel
theorem dX4_runOne_153 : decode cX4_runOne 153 = .ok (.return_, 1) := by decide +kernel
theorem dX4_runThrough_0 : decode cX4_runThrough 0 = .ok (.aload_n 0, 1) := by decide +kernel
theorem dX4_runThrough_1 : decode cX4_runThrough 1 = .ok (.invokevirtual 102, 3) := by decide +kernel
theorem dX4_runThrough_4 : decode cX4_runThrough 4 = .ok (.iconst 0, 1) := by decide +kernel
theorem dX4_runThrough_5 : decode cX4_runThrough 5 = .ok (.istore_n 2, 1) := by decide +kernel
theorem dX4_runThrough_6 : decode cX4_runThrough 6 = .ok (.iload_n 2, 1) := by decide +kernel
theorem dX4_runThrough_7 : decode cX4_runThrough 7 = .ok (.aload_n 0, 1) := by decide +kernel
theorem dX4_runThrough_8 : decode cX4_runThrough 8 = .ok (.getfield 70, 3) := by decide +kernel
theorem dX4_runThrough_11 : decode cX4_runThrough 11 = .ok (.if_icmp .ge 61, 3) := by decide +kernel
theorem dX4_runThrough_14 : decode cX4_runThrough 14 = .ok (.aload_n 0, 1) := by decide +kernel
theorem dX4_runThrough_15 : decode cX4_runThrough 15 = .ok (.getfield 28, 3) := by decide +kernel
theorem dX4_runThrough_18 : decode cX4_runThrough 18 = .ok (.iload_n 2, 1) := by decide +kernel
theorem dX4_runThrough_19 : decode cX4_runThrough 19 = .ok (.iaload, 1) := by decide +kernel
theorem dX4_runThrough_20 : decode cX4_runThrough 20 = .ok (.istore_n 3, 1) := by decide +kernel
theorem dX4_runThrough_21 : decode cX4_runThrough 21 = .ok (.aload_n 0, 1) := by decide +kernel
theorem dX4_runThrough_22 : decode cX4_runThrough 22 = .ok (.getfield 31, 3) := by decide +kernel
theorem dX4_runThrough_25 : decode cX4_runThrough 25 = .ok (.iload_n 3, 1) := by decide +kernel
theorem dX4_runThrough_26 : decode cX4_runThrough 26 = .ok (.aload_n 0, 1) := by decide +kernel
theorem dX4_runThrough_27 : decode cX4_runThrough 27 = .ok (.iload_n 3, 1) := by decide +kernel
theorem dX4_runThrough_28 : decode cX4_runThrough 28 = .ok (.invokevirtual 86, 3) := by decide +kernel
theorem dX4_runThrough_31 : decode cX4_runThrough 31 = .ok (.bastore, 1) := by decide +kernel
theorem dX4_runThrough_32 : decode cX4_runThrough 32 = .ok (.iload_n 1, 1) := by decide +kernel
theorem dX4_runThrough_33 : decode cX4_runThrough 33 = .ok (.iload_n 3, 1) := by decide +kernel
theorem dX4_runThrough_34 : decode cX4_runThrough 34 = .ok (.ishr, 1) := by decide +kernel
theorem dX4_runThrough_35 : decode cX4_runThrough 35 = .ok (.iconst 1, 1) := by decide +kernel
theorem dX4_runThrough_36 : decode cX4_runThrough 36 = .ok (.iand, 1) := by decide +kernel
theorem dX4_runThrough_37 : decode cX4_runThrough 37 = .ok (.iconst 1, 1) := by decide +kernel
theorem dX4_runThrough_38 : decode cX4_runThrough 38 = .ok (.if_icmp .ne 28, 3) := by decide +kernel
theorem dX4_runThrough_41 : decode cX4_runThrough 41 = .ok (.aload_n 0, 1) := by decide +kernel
theorem dX4_runThrough_42 : decode cX4_runThrough 42 = .ok (.getfield 31, 3) := by decide +kernel
theorem dX4_runThrough_45 : decode cX4_runThrough 45 = .ok (.iload_n 3, 1) := by decide +kernel
theorem dX4_runThrough_46 : decode cX4_runThrough 46 = .ok (.baload, 1) := by decide +kernel
theorem dX4_runThrough_47 : decode cX4_runThrough 47 = .ok (.ifCond .ne 19, 3) := by decide +kernel
theorem dX4_runThrough_50 : decode cX4_runThrough 50 = .ok (.aload_n 0, 1) := by decide +kernel
theorem dX4_runThrough_51 : decode cX4_runThrough 51 = .ok (.iload_n 3, 1) := by decide +kernel
theorem dX4_runThrough_52 : decode cX4_runThrough 52 = .ok (.invokevirtual 105, 3) := by decide +kernel
theorem dX4_runThrough_55 : decode cX4_runThrough 55 = .ok (.aload_n 0, 1) := by decide +kernel
theorem dX4_runThrough_56 : decode cX4_runThrough 56 = .ok (.getfield 31, 3) := by decide +kernel
theorem dX4_runThrough_59 : decode cX4_runThrough 59 = .ok (.iload_n 3, 1) := by decide +kernel
theorem dX4_runThrough_60 : decode cX4_runThrough 60 = .ok (.aload_n 0, 1) := by decide +kernel
theorem dX4_runThrough_61 : decode cX4_runThrough 61 = .ok (.iload_n 3, 1) := by decide +kernel
theorem dX4_runThrough_62 : decode cX4_runThrough 62 = .ok (.invokevirtual 86, 3) := by decide +kernel
theorem dX4_runThrough_65 : decode cX4_runThrough 65 = .ok (.bastore, 1) := by decide +kernel
theorem dX4_runThrough_66 : decode cX4_runThrough 66 = .ok (.iinc 2 1, 3) := by decide +kernel
theorem dX4_runThrough_69 : decode cX4_runThrough 69 = .ok (.goto (-63), 3) := by decide +kernel
theorem dX4_runThrough_72 : decode cX4_runThrough 72 = .ok (.return_, 1) := by decide +kernel
theorem dX4_runIfEager_0 : decode cX4_runIfEager 0 = .ok (.aload_n 0, 1) := by decide +kernel
theorem dX4_runIfEager_1 : decode cX4_runIfEager 1 = .ok (.getfield 7, 3) := by decide +kernel
theorem dX4_runIfEager_4 : decode cX4_runIfEager 4 = .ok (.iconst 1, 1) := by decide +kernel
theorem dX4_runIfEager_5 : decode cX4_runIfEager 5 = .ok (.iaload, 1) := by decide +kernel
theorem dX4_runIfEager_6 : decode cX4_runIfEager 6 = .ok (.iconst 1, 1) := by decide +kernel
theorem dX4_runIfEager_7 : decode cX4_runIfEager 7 = .ok (.if_icmp .ne 8, 3) := by decide +kernel
theorem dX4_runIfEager_10 : decode cX4_runIfEager 10 = .ok (.aload_n 0, 1) := by decide +kernel
theorem dX4_runIfEager_11 : decode cX4_runIfEager 11 = .ok (.iconst (-1), 1) := by decide +kernel
theorem dX4_runIfEager_12 : decode cX4_runIfEager 12 = .ok (.invokevirtual 109, 3) := by decide +kernel
theorem dX4_runIfEager_15 : decode cX4_runIfEager 15 = .ok (.return_, 1) := by decide +kernel
theorem dX4_runStale_0 : decode cX4_runStale 0 = .ok (.aload_n 0, 1) := by decide +kernel
theorem dX4_runStale_1 : decode cX4_runStale 1 = .ok (.invokevirtual 112, 3) := by decide +kernel
theorem dX4_runStale_4 : decode cX4_runStale 4 = .ok (.aload_n 0, 1) := by decide +kernel
theorem dX4_runStale_5 : decode cX4_runStale 5 = .ok (.iconst (-1), 1) := by decide +kernel
theorem dX4_runStale_6 : decode cX4_runStale 6 = .ok (.invokevirtual 109, 3) := by decide +kernel
theorem dX4_runStale_9 : decode cX4_runStale 9 = .ok (.aload_n 0, 1) := by decide +kernel
theorem dX4_runStale_10 : decode cX4_runStale 10 = .ok (.getfield 7, 3) := by decide +kernel
theorem dX4_runStale_13 : decode cX4_runStale 13 = .ok (.iconst 4, 1) := by decide +kernel
theorem dX4_runStale_14 : decode cX4_runStale 14 = .ok (.iaload, 1) := by decide +kernel
theorem dX4_runStale_15 : decode cX4_runStale 15 = .ok (.ireturn, 1) := by decide +kernel
theorem dX4_runCell_0 : decode cX4_runCell 0 = .ok (.aload_n 0, 1) := by decide +kernel
theorem dX4_runCell_1 : decode cX4_runCell 1 = .ok (.iload_n 1, 1) := by decide +kernel
theorem dX4_runCell_2 : decode cX4_runCell 2 = .ok (.invokevirtual 115, 3) := by decide +kernel
theorem dX4_runCell_5 : decode cX4_runCell 5 = .ok (.ifCond .ne 11, 3) := by decide +kernel
theorem dX4_runCell_8 : decode cX4_runCell 8 = .ok (.aload_n 0, 1) := by decide +kernel
theorem dX4_runCell_9 : decode cX4_runCell 9 = .ok (.sipush (-10002), 3) := by decide +kernel
theorem dX4_runCell_12 : decode cX4_runCell 12 = .ok (.invokevirtual 118, 3) := by decide +kernel
theorem dX4_runCell_15 : decode cX4_runCell 15 = .ok (.ireturn, 1) := by decide +kernel
theorem dX4_runCell_16 : decode cX4_runCell 16 = .ok (.aload_n 0, 1) := by decide +kernel
theorem dX4_runCell_17 : decode cX4_runCell 17 = .ok (.invokevirtual 102, 3) := by decide +kernel
theorem dX4_runCell_20 : decode cX4_runCell 20 = .ok (.aload_n 0, 1) := by decide +kernel
theorem dX4_runCell_21 : decode cX4_runCell 21 = .ok (.getfield 22, 3) := by decide +kernel
theorem dX4_runCell_24 : decode cX4_runCell 24 = .ok (.iload_n 1, 1) := by decide +kernel
theorem dX4_runCell_25 : decode cX4_runCell 25 = .ok (.iaload, 1) := by decide +kernel
theorem dX4_runCell_26 : decode cX4_runCell 26 = .ok (.ifCond .eq 11, 3) := by decide +kernel
theorem dX4_runCell_29 : decode cX4_runCell 29 = .ok (.aload_n 0, 1) := by decide +kernel
theorem dX4_runCell_30 : decode cX4_runCell 30 = .ok (.sipush (-10003), 3) := by decide +kernel
theorem dX4_runCell_33 : decode cX4_runCell 33 = .ok (.invokevirtual 118, 3) := by decide +kernel
theorem dX4_runCell_36 : decode cX4_runCell 36 = .ok (.ireturn, 1) := by decide +kernel
theorem dX4_runCell_37 : decode cX4_runCell 37 = .ok (.aload_n 0, 1) := by decide +kernel
theorem dX4_runCell_38 : decode cX4_runCell 38 = .ok (.invokevirtual 112, 3) := by decide +kernel
theorem dX4_runCell_41 : decode cX4_runCell 41 = .ok (.aload_n 0, 1) := by decide +kernel
theorem dX4_runCell_42 : decode cX4_runCell 42 = .ok (.aload_n 0, 1) := by decide +kernel
theorem dX4_runCell_43 : decode cX4_runCell 43 = .ok (.getfield 25, 3) := by decide +kernel
theorem dX4_runCell_46 : decode cX4_runCell 46 = .ok (.iload_n 1, 1) := by decide +kernel
theorem dX4_runCell_47 : decode cX4_runCell 47 = .ok (.iaload, 1) := by decide +kernel
theorem dX4_runCell_48 : decode cX4_runCell 48 = .ok (.iconst 1, 1) := by decide +kernel
theorem dX4_runCell_49 : decode cX4_runCell 49 = .ok (.iload_n 1, 1) := by decide +kernel
theorem dX4_runCell_50 : decode cX4_runCell 50 = .ok (.ishl, 1) := by decide +kernel
theorem dX4_runCell_51 : decode cX4_runCell 51 = .ok (.ior, 1) := by decide +kernel
theorem dX4_runCell_52 : decode cX4_runCell 52 = .ok (.invokevirtual 109, 3) := by decide +kernel
theorem dX4_runCell_55 : decode cX4_runCell 55 = .ok (.aload_n 0, 1) := by decide +kernel
theorem dX4_runCell_56 : decode cX4_runCell 56 = .ok (.getfield 7, 3) := by decide +kernel
theorem dX4_runCell_59 : decode cX4_runCell 59 = .ok (.iconst 4, 1) := by decide +kernel
theorem dX4_runCell_60 : decode cX4_runCell 60 = .ok (.iaload, 1) := by decide +kernel
theorem dX4_runCell_61 : decode cX4_runCell 61 = .ok (.ireturn, 1) := by decide +kernel
theorem dX4_lastRunCount_0 : decode cX4_lastRunCount 0 = .ok (.aload_n 0, 1) := by decide +kernel
theorem dX4_lastRunCount_1 : decode cX4_lastRunCount 1 = .ok (.getfield 7, 3) := by decide +kernel
theorem dX4_lastRunCount_4 : decode cX4_lastRunCount 4 = .ok (.iconst 4, 1) := by decide +kernel
theorem dX4_lastRunCount_5 : decode cX4_lastRunCount 5 = .ok (.iaload, 1) := by decide +kernel
theorem dX4_lastRunCount_6 : decode cX4_lastRunCount 6 = .ok (.ireturn, 1) := by decide +kernel
theorem dX4_lastRun_0 : decode cX4_lastRun 0 = .ok (.iload_n 1, 1) := by decide +kernel
theorem dX4_lastRun_1 : decode cX4_lastRun 1 = .ok (.ifCond .ge 11, 3) := by decide +kernel
theorem dX4_lastRun_4 : decode cX4_lastRun 4 = .ok (.aload_n 0, 1) := by decide +kernel
theorem dX4_lastRun_5 : decode cX4_lastRun 5 = .ok (.sipush (-10002), 3) := by decide +kernel
theorem dX4_lastRun_8 : decode cX4_lastRun 8 = .ok (.invokevirtual 118, 3) := by decide +kernel
theorem dX4_lastRun_11 : decode cX4_lastRun 11 = .ok (.ireturn, 1) := by decide +kernel
theorem dX4_lastRun_12 : decode cX4_lastRun 12 = .ok (.iload_n 1, 1) := by decide +kernel
theorem dX4_lastRun_13 : decode cX4_lastRun 13 = .ok (.aload_n 0, 1) := by decide +kernel
theorem dX4_lastRun_14 : decode cX4_lastRun 14 = .ok (.getfield 7, 3) := by decide +kernel
theorem dX4_lastRun_17 : decode cX4_lastRun 17 = .ok (.iconst 4, 1) := by decide +kernel
theorem dX4_lastRun_18 : decode cX4_lastRun 18 = .ok (.iaload, 1) := by decide +kernel
theorem dX4_lastRun_19 : decode cX4_lastRun 19 = .ok (.if_icmp .ge 14, 3) := by decide +kernel
theorem dX4_lastRun_22 : decode cX4_lastRun 22 = .ok (.aload_n 0, 1) := by decide +kernel
theorem dX4_lastRun_23 : decode cX4_lastRun 23 = .ok (.getfield 7, 3) := by decide +kernel
theorem dX4_lastRun_26 : decode cX4_lastRun 26 = .ok (.iconst 5, 1) := by decide +kernel
theorem dX4_lastRun_27 : decode cX4_lastRun 27 = .ok (.iload_n 1, 1) := by decide +kernel
theorem dX4_lastRun_28 : decode cX4_lastRun 28 = .ok (.iadd, 1) := by decide +kernel
theorem dX4_lastRun_29 : decode cX4_lastRun 29 = .ok (.iaload, 1) := by decide +kernel
theorem dX4_lastRun_30 : decode cX4_lastRun 30 = .ok (.goto 6, 3) := by decide +kernel
theorem dX4_lastRun_33 : decode cX4_lastRun 33 = .ok (.sipush (-10001), 3) := by decide +kernel
theorem dX4_lastRun_36 : decode cX4_lastRun 36 = .ok (.ireturn, 1) := by decide +kernel
theorem dX4_isDefinition_0 : decode cX4_isDefinition 0 = .ok (.iload_n 0, 1) := by decide +kernel
theorem dX4_isDefinition_1 : decode cX4_isDefinition 1 = .ok (.iconst 0, 1) := by decide +kernel
theorem dX4_isDefinition_2 : decode cX4_isDefinition 2 = .ok (.bipush 9, 2) := by decide +kernel
theorem dX4_isDefinition_4 : decode cX4_isDefinition 4 = .ok (.invokestatic 42, 3) := by decide +kernel
theorem dX4_isDefinition_7 : decode cX4_isDefinition 7 = .ok (.ifCond .eq 36, 3) := by decide +kernel
theorem dX4_isDefinition_10 : decode cX4_isDefinition 10 = .ok (.iload_n 1, 1) := by decide +kernel
theorem dX4_isDefinition_11 : decode cX4_isDefinition 11 = .ok (.iconst 0, 1) := by decide +kernel
theorem dX4_isDefinition_12 : decode cX4_isDefinition 12 = .ok (.iconst 5, 1) := by decide +kernel
theorem dX4_isDefinition_13 : decode cX4_isDefinition 13 = .ok (.invokestatic 42, 3) := by decide +kernel
theorem dX4_isDefinition_16 : decode cX4_isDefinition 16 = .ok (.ifCond .eq 27, 3) := by decide +kernel
theorem dX4_isDefinition_19 : decode cX4_isDefinition 19 = .ok (.iload_n 2, 1) := by decide +kernel
theorem dX4_isDefinition_20 : decode cX4_isDefinition 20 = .ok (.iconst 0, 1) := by decide +kernel
theorem dX4_isDefinition_21 : decode cX4_isDefinition 21 = .ok (.bipush 109, 2) := by decide +kernel
theorem dX4_isDefinition_23 : decode cX4_isDefinition 23 = .ok (.invokestatic 42, 3) := by decide +kernel
theorem dX4_isDefinition_26 : decode cX4_isDefinition 26 = .ok (.ifCond .eq 17, 3) := by decide +kernel
theorem dX4_isDefinition_29 : decode cX4_isDefinition 29 = .ok (.iload_n 3, 1) := by decide +kernel
theorem dX4_isDefinition_30 : decode cX4_isDefinition 30 = .ok (.iconst 0, 1) := by decide +kernel
theorem dX4_isDefinition_31 : decode cX4_isDefinition 31 = .ok (.bipush 109, 2) := by decide +kernel
theorem dX4_isDefinition_33 : decode cX4_isDefinition 33 = .ok (.invokestatic 42, 3) := by decide +kernel
theorem dX4_isDefinition_36 : decode cX4_isDefinition 36 = .ok (.ifCond .eq 7, 3) := by decide +kernel
theorem dX4_isDefinition_39 : decode cX4_isDefinition 39 = .ok (.iconst 1, 1) := by decide +kernel
theorem dX4_isDefinition_40 : decode cX4_isDefinition 40 = .ok (.goto 4, 3) := by decide +kernel
theorem dX4_isDefinition_43 : decode cX4_isDefinition 43 = .ok (.iconst 0, 1) := by decide +kernel
theorem dX4_isDefinition_44 : decode cX4_isDefinition 44 = .ok (.ireturn, 1) := by decide +kernel
theorem dX4_define_0 : decode cX4_define 0 = .ok (.aload_n 0, 1) := by decide +kernel
theorem dX4_define_1 : decode cX4_define 1 = .ok (.getfield 7, 3) := by decide +kernel
theorem dX4_define_4 : decode cX4_define 4 = .ok (.iload_n 1, 1) := by decide +kernel
theorem dX4_define_5 : decode cX4_define 5 = .ok (.iconst 0, 1) := by decide +kernel
theorem dX4_define_6 : decode cX4_define 6 = .ok (.invokestatic 38, 3) := by decide +kernel
theorem dX4_define_9 : decode cX4_define 9 = .ok (.iload_n 2, 1) := by decide +kernel
theorem dX4_define_10 : decode cX4_define 10 = .ok (.iastore, 1) := by decide +kernel
theorem dX4_define_11 : decode cX4_define 11 = .ok (.aload_n 0, 1) := by decide +kernel
theorem dX4_define_12 : decode cX4_define 12 = .ok (.getfield 7, 3) := by decide +kernel
theorem dX4_define_15 : decode cX4_define 15 = .ok (.iload_n 1, 1) := by decide +kernel
theorem dX4_define_16 : decode cX4_define 16 = .ok (.iconst 1, 1) := by decide +kernel
theorem dX4_define_17 : decode cX4_define 17 = .ok (.invokestatic 38, 3) := by decide +kernel
theorem dX4_define_20 : decode cX4_define 20 = .ok (.iload_n 3, 1) := by decide +kernel
theorem dX4_define_21 : decode cX4_define 21 = .ok (.iastore, 1) := by decide +kernel
theorem dX4_define_22 : decode cX4_define 22 = .ok (.aload_n 0, 1) := by decide +kernel
theorem dX4_define_23 : decode cX4_define 23 = .ok (.getfield 7, 3) := by decide +kernel
theorem dX4_define_26 : decode cX4_define 26 = .ok (.iload_n 1, 1) := by decide +kernel
theorem dX4_define_27 : decode cX4_define 27 = .ok (.iconst 2, 1) := by decide +kernel
theorem dX4_define_28 : decode cX4_define 28 = .ok (.invokestatic 38, 3) := by decide +kernel
theorem dX4_define_31 : decode cX4_define 31 = .ok (.iload 4, 2) := by decide +kernel
theorem dX4_define_33 : decode cX4_define 33 = .ok (.iastore, 1) := by decide +kernel
theorem dX4_define_34 : decode cX4_define 34 = .ok (.aload_n 0, 1) := by decide +kernel
theorem dX4_define_35 : decode cX4_define 35 = .ok (.getfield 7, 3) := by decide +kernel
theorem dX4_define_38 : decode cX4_define 38 = .ok (.iload_n 1, 1) := by decide +kernel
theorem dX4_define_39 : decode cX4_define 39 = .ok (.iconst 3, 1) := by decide +kernel
theorem dX4_define_40 : decode cX4_define 40 = .ok (.invokestatic 38, 3) := by decide +kernel
theorem dX4_define_43 : decode cX4_define 43 = .ok (.iload 5, 2) := by decide +kernel
theorem dX4_define_45 : decode cX4_define 45 = .ok (.iastore, 1) := by decide +kernel
theorem dX4_define_46 : decode cX4_define 46 = .ok (.aload_n 0, 1) := by decide +kernel
theorem dX4_define_47 : decode cX4_define 47 = .ok (.getfield 7, 3) := by decide +kernel
theorem dX4_define_50 : decode cX4_define 50 = .ok (.iload_n 1, 1) := by decide +kernel
theorem dX4_define_51 : decode cX4_define 51 = .ok (.iconst 4, 1) := by decide +kernel
theorem dX4_define_52 : decode cX4_define 52 = .ok (.invokestatic 38, 3) := by decide +kernel
theorem dX4_define_55 : decode cX4_define 55 = .ok (.iconst 0, 1) := by decide +kernel
theorem dX4_define_56 : decode cX4_define 56 = .ok (.iastore, 1) := by decide +kernel
theorem dX4_define_57 : decode cX4_define 57 = .ok (.aload_n 0, 1) := by decide +kernel
theorem dX4_define_58 : decode cX4_define 58 = .ok (.getfield 7, 3) := by decide +kernel
theorem dX4_define_61 : decode cX4_define 61 = .ok (.iload_n 1, 1) := by decide +kernel
theorem dX4_define_62 : decode cX4_define 62 = .ok (.iconst 5, 1) := by decide +kernel
theorem dX4_define_63 : decode cX4_define 63 = .ok (.invokestatic 38, 3) := by decide +kernel
theorem dX4_define_66 : decode cX4_define 66 = .ok (.iconst 0, 1) := by decide +kernel
theorem dX4_define_67 : decode cX4_define 67 = .ok (.iastore, 1) := by decide +kernel
theorem dX4_define_68 : decode cX4_define 68 = .ok (.aload_n 0, 1) := by decide +kernel
theorem dX4_define_69 : decode cX4_define 69 = .ok (.getfield 7, 3) := by decide +kernel
theorem dX4_define_72 : decode cX4_define 72 = .ok (.iload_n 1, 1) := by decide +kernel
theorem dX4_define_73 : decode cX4_define 73 = .ok (.bipush 6, 2) := by decide +kernel
theorem dX4_define_75 : decode cX4_define 75 = .ok (.invokestatic 38, 3) := by decide +kernel
theorem dX4_define_78 : decode cX4_define 78 = .ok (.iconst 0, 1) := by decide +kernel
theorem dX4_define_79 : decode cX4_define 79 = .ok (.iastore, 1) := by decide +kernel
theorem dX4_define_80 : decode cX4_define 80 = .ok (.aload_n 0, 1) := by decide +kernel
theorem dX4_define_81 : decode cX4_define 81 = .ok (.getfield 7, 3) := by decide +kernel
theorem dX4_define_84 : decode cX4_define 84 = .ok (.iload_n 1, 1) := by decide +kernel
theorem dX4_define_85 : decode cX4_define 85 = .ok (.bipush 7, 2) := by decide +kernel
theorem dX4_define_87 : decode cX4_define 87 = .ok (.invokestatic 38, 3) := by decide +kernel
theorem dX4_define_90 : decode cX4_define 90 = .ok (.iconst 0, 1) := by decide +kernel
theorem dX4_define_91 : decode cX4_define 91 = .ok (.iastore, 1) := by decide +kernel
theorem dX4_define_92 : decode cX4_define 92 = .ok (.return_, 1) := by decide +kernel
theorem dX4_addCell_0 : decode cX4_addCell 0 = .ok (.iload_n 1, 1) := by decide +kernel
theorem dX4_addCell_1 : decode cX4_addCell 1 = .ok (.iload_n 2, 1) := by decide +kernel
theorem dX4_addCell_2 : decode cX4_addCell 2 = .ok (.iload_n 3, 1) := by decide +kernel
theorem dX4_addCell_3 : decode cX4_addCell 3 = .ok (.iload 4, 2) := by decide +kernel
theorem dX4_addCell_5 : decode cX4_addCell 5 = .ok (.invokestatic 121, 3) := by decide +kernel
theorem dX4_addCell_8 : decode cX4_addCell 8 = .ok (.ifCond .ne 11, 3) := by decide +kernel
theorem dX4_addCell_11 : decode cX4_addCell 11 = .ok (.aload_n 0, 1) := by decide +kernel
theorem dX4_addCell_12 : decode cX4_addCell 12 = .ok (.sipush (-10002), 3) := by decide +kernel
theorem dX4_addCell_15 : decode cX4_addCell 15 = .ok (.invokevirtual 118, 3) := by decide +kernel
theorem dX4_addCell_18 : decode cX4_addCell 18 = .ok (.ireturn, 1) := by decide +kernel
theorem dX4_addCell_19 : decode cX4_addCell 19 = .ok (.aload_n 0, 1) := by decide +kernel
theorem dX4_addCell_20 : decode cX4_addCell 20 = .ok (.getfield 7, 3) := by decide +kernel
theorem dX4_addCell_23 : decode cX4_addCell 23 = .ok (.iconst 0, 1) := by decide +kernel
theorem dX4_addCell_24 : decode cX4_addCell 24 = .ok (.iaload, 1) := by decide +kernel
theorem dX4_addCell_25 : decode cX4_addCell 25 = .ok (.bipush 12, 2) := by decide +kernel
theorem dX4_addCell_27 : decode cX4_addCell 27 = .ok (.if_icmp .ne 11, 3) := by decide +kernel
theorem dX4_addCell_30 : decode cX4_addCell 30 = .ok (.aload_n 0, 1) := by decide +kernel
theorem dX4_addCell_31 : decode cX4_addCell 31 = .ok (.sipush (-10004), 3) := by decide +kernel
theorem dX4_addCell_34 : decode cX4_addCell 34 = .ok (.invokevirtual 118, 3) := by decide +kernel
theorem dX4_addCell_37 : decode cX4_addCell 37 = .ok (.ireturn, 1) := by decide +kernel
theorem dX4_addCell_38 : decode cX4_addCell 38 = .ok (.aload_n 0, 1) := by decide +kernel
theorem dX4_addCell_39 : decode cX4_addCell 39 = .ok (.invokevirtual 112, 3) := by decide +kernel
theorem dX4_addCell_42 : decode cX4_addCell 42 = .ok (.aload_n 0, 1) := by decide +kernel
theorem dX4_addCell_43 : decode cX4_addCell 43 = .ok (.getfield 7, 3) := by decide +kernel
theorem dX4_addCell_46 : decode cX4_addCell 46 = .ok (.iconst 0, 1) := by decide +kernel
theorem dX4_addCell_47 : decode cX4_addCell 47 = .ok (.iaload, 1) := by decide +kernel
theorem dX4_addCell_48 : decode cX4_addCell 48 = .ok (.istore 5, 2) := by decide +kernel
theorem dX4_addCell_50 : decode cX4_addCell 50 = .ok (.aload_n 0, 1) := by decide +kernel
theorem dX4_addCell_51 : decode cX4_addCell 51 = .ok (.iload 5, 2) := by decide +kernel
theorem dX4_addCell_53 : decode cX4_addCell 53 = .ok (.iload_n 1, 1) := by decide +kernel
theorem dX4_addCell_54 : decode cX4_addCell 54 = .ok (.iload_n 2, 1) := by decide +kernel
theorem dX4_addCell_55 : decode cX4_addCell 55 = .ok (.iload_n 3, 1) := by decide +kernel
theorem dX4_addCell_56 : decode cX4_addCell 56 = .ok (.iload 4, 2) := by decide +kernel
theorem dX4_addCell_58 : decode cX4_addCell 58 = .ok (.invokevirtual 125, 3) := by decide +kernel
theorem dX4_addCell_61 : decode cX4_addCell 61 = .ok (.aload_n 0, 1) := by decide +kernel
theorem dX4_addCell_62 : decode cX4_addCell 62 = .ok (.getfield 7, 3) := by decide +kernel
theorem dX4_addCell_65 : decode cX4_addCell 65 = .ok (.iload 5, 2) := by decide +kernel
theorem dX4_addCell_67 : decode cX4_addCell 67 = .ok (.bipush 8, 2) := by decide +kernel
theorem dX4_addCell_69 : decode cX4_addCell 69 = .ok (.invokestatic 38, 3) := by decide +kernel
theorem dX4_addCell_72 : decode cX4_addCell 72 = .ok (.iconst 0, 1) := by decide +kernel
theorem dX4_addCell_73 : decode cX4_addCell 73 = .ok (.iastore, 1) := by decide +kernel
theorem dX4_addCell_74 : decode cX4_addCell 74 = .ok (.aload_n 0, 1) := by decide +kernel
theorem dX4_addCell_75 : decode cX4_addCell 75 = .ok (.getfield 7, 3) := by decide +kernel
theorem dX4_addCell_78 : decode cX4_addCell 78 = .ok (.iconst 0, 1) := by decide +kernel
theorem dX4_addCell_79 : decode cX4_addCell 79 = .ok (.dup2, 1) := by decide +kernel
theorem dX4_addCell_80 : decode cX4_addCell 80 = .ok (.iaload, 1) := by decide +kernel
theorem dX4_addCell_81 : decode cX4_addCell 81 = .ok (.iconst 1, 1) := by decide +kernel
theorem dX4_addCell_82 : decode cX4_addCell 82 = .ok (.iadd, 1) := by decide +kernel
theorem dX4_addCell_83 : decode cX4_addCell 83 = .ok (.iastore, 1) := by decide +kernel
theorem dX4_addCell_84 : decode cX4_addCell 84 = .ok (.aload_n 0, 1) := by decide +kernel
theorem dX4_addCell_85 : decode cX4_addCell 85 = .ok (.invokevirtual 129, 3) := by decide +kernel
theorem dX4_addCell_88 : decode cX4_addCell 88 = .ok (.iload 5, 2) := by decide +kernel
theorem dX4_addCell_90 : decode cX4_addCell 90 = .ok (.ireturn, 1) := by decide +kernel
theorem dX4_editCell_0 : decode cX4_editCell 0 = .ok (.aload_n 0, 1) := by decide +kernel
theorem dX4_editCell_1 : decode cX4_editCell 1 = .ok (.iload_n 1, 1) := by decide +kernel
theorem dX4_editCell_2 : decode cX4_editCell 2 = .ok (.invokevirtual 115, 3) := by decide +kernel
theorem dX4_editCell_5 : decode cX4_editCell 5 = .ok (.ifCond .eq 15, 3) := by decide +kernel
theorem dX4_editCell_8 : decode cX4_editCell 8 = .ok (.iload_n 2, 1) := by decide +kernel
theorem dX4_editCell_9 : decode cX4_editCell 9 = .ok (.iload_n 3, 1) := by decide +kernel
theorem dX4_editCell_10 : decode cX4_editCell 10 = .ok (.iload 4, 2) := by decide +kernel
theorem dX4_editCell_12 : decode cX4_editCell 12 = .ok (.iload 5, 2) := by decide +kernel
theorem dX4_editCell_14 : decode cX4_editCell 14 = .ok (.invokestatic 121, 3) := by decide +kernel
theorem dX4_editCell_17 : decode cX4_editCell 17 = .ok (.ifCond .ne 11, 3) := by decide +kernel
theorem dX4_editCell_20 : decode cX4_editCell 20 = .ok (.aload_n 0, 1) := by decide +kernel
theorem dX4_editCell_21 : decode cX4_editCell 21 = .ok (.sipush (-10002), 3) := by decide +kernel
theorem dX4_editCell_24 : decode cX4_editCell 24 = .ok (.invokevirtual 118, 3) := by decide +kernel
theorem dX4_editCell_27 : decode cX4_editCell 27 = .ok (.ireturn, 1) := by decide +kernel
theorem dX4_editCell_28 : decode cX4_editCell 28 = .ok (.aload_n 0, 1) := by decide +kernel
theorem dX4_editCell_29 : decode cX4_editCell 29 = .ok (.invokevirtual 112, 3) := by decide +kernel
theorem dX4_editCell_32 : decode cX4_editCell 32 = .ok (.aload_n 0, 1) := by decide +kernel
theorem dX4_editCell_33 : decode cX4_editCell 33 = .ok (.iload_n 1, 1) := by decide +kernel
theorem dX4_editCell_34 : decode cX4_editCell 34 = .ok (.iconst 0, 1) := by decide +kernel
theorem dX4_editCell_35 : decode cX4_editCell 35 = .ok (.invokevirtual 50, 3) := by decide +kernel
theorem dX4_editCell_38 : decode cX4_editCell 38 = .ok (.istore 6, 2) := by decide +kernel
theorem dX4_editCell_40 : decode cX4_editCell 40 = .ok (.aload_n 0, 1) := by decide +kernel
theorem dX4_editCell_41 : decode cX4_editCell 41 = .ok (.iload_n 1, 1) := by decide +kernel
theorem dX4_editCell_42 : decode cX4_editCell 42 = .ok (.iload_n 2, 1) := by decide +kernel
theorem dX4_editCell_43 : decode cX4_editCell 43 = .ok (.iload_n 3, 1) := by decide +kernel
theorem dX4_editCell_44 : decode cX4_editCell 44 = .ok (.iload 4, 2) := by decide +kernel
theorem dX4_editCell_46 : decode cX4_editCell 46 = .ok (.iload 5, 2) := by decide +kernel
theorem dX4_editCell_48 : decode cX4_editCell 48 = .ok (.invokevirtual 125, 3) := by decide +kernel
theorem dX4_editCell_51 : decode cX4_editCell 51 = .ok (.aload_n 0, 1) := by decide +kernel
theorem dX4_editCell_52 : decode cX4_editCell 52 = .ok (.invokevirtual 129, 3) := by decide +kernel
theorem dX4_editCell_55 : decode cX4_editCell 55 = .ok (.iload 6, 2) := by decide +kernel
theorem dX4_editCell_57 : decode cX4_editCell 57 = .ok (.ireturn, 1) := by decide +kernel
theorem dX4_copyCell_0 : decode cX4_copyCell 0 = .ok (.iconst 0, 1) := by decide +kernel
theorem dX4_copyCell_1 : decode cX4_copyCell 1 = .ok (.istore_n 3, 1) := by decide +kernel
theorem dX4_copyCell_2 : decode cX4_copyCell 2 = .ok (.iload_n 3, 1) := by decide +kernel
theorem dX4_copyCell_3 : decode cX4_copyCell 3 = .ok (.bipush 10, 2) := by decide +kernel
theorem dX4_copyCell_5 : decode cX4_copyCell 5 = .ok (.if_icmp .ge 29, 3) := by decide +kernel
theorem dX4_copyCell_8 : decode cX4_copyCell 8 = .ok (.aload_n 0, 1) := by decide +kernel
theorem dX4_copyCell_9 : decode cX4_copyCell 9 = .ok (.getfield 7, 3) := by decide +kernel
theorem dX4_copyCell_12 : decode cX4_copyCell 12 = .ok (.iload_n 2, 1) := by decide +kernel
theorem dX4_copyCell_13 : decode cX4_copyCell 13 = .ok (.iload_n 3, 1) := by decide +kernel
theorem dX4_copyCell_14 : decode cX4_copyCell 14 = .ok (.invokestatic 38, 3) := by decide +kernel
theorem dX4_copyCell_17 : decode cX4_copyCell 17 = .ok (.aload_n 0, 1) := by decide +kernel
theorem dX4_copyCell_18 : decode cX4_copyCell 18 = .ok (.getfield 7, 3) := by decide +kernel
theorem dX4_copyCell_21 : decode cX4_copyCell 21 = .ok (.iload_n 1, 1) := by decide +kernel
theorem dX4_copyCell_22 : decode cX4_copyCell 22 = .ok (.iload_n 3, 1) := by decide +kernel
theorem dX4_copyCell_23 : decode cX4_copyCell 23 = .ok (.invokestatic 38, 3) := by decide +kernel
theorem dX4_copyCell_26 : decode cX4_copyCell 26 = .ok (.iaload, 1) := by decide +kernel
theorem dX4_copyCell_27 : decode cX4_copyCell 27 = .ok (.iastore, 1) := by decide +kernel
theorem dX4_copyCell_28 : decode cX4_copyCell 28 = .ok (.iinc 3 1, 3) := by decide +kernel
theorem dX4_copyCell_31 : decode cX4_copyCell 31 = .ok (.goto (-29), 3) := by decide +kernel
theorem dX4_copyCell_34 : decode cX4_copyCell 34 = .ok (.return_, 1) := by decide +kernel
theorem dX4_deleteCell_0 : decode cX4_deleteCell 0 = .ok (.aload_n 0, 1) := by decide +kernel
theorem dX4_deleteCell_1 : decode cX4_deleteCell 1 = .ok (.iload_n 1, 1) := by decide +kernel
theorem dX4_deleteCell_2 : decode cX4_deleteCell 2 = .ok (.invokevirtual 115, 3) := by decide +kernel
theorem dX4_deleteCell_5 : decode cX4_deleteCell 5 = .ok (.ifCond .ne 11, 3) := by decide +kernel
theorem dX4_deleteCell_8 : decode cX4_deleteCell 8 = .ok (.aload_n 0, 1) := by decide +kernel
theorem dX4_deleteCell_9 : decode cX4_deleteCell 9 = .ok (.sipush (-10002), 3) := by decide +kernel
theorem dX4_deleteCell_12 : decode cX4_deleteCell 12 = .ok (.invokevirtual 118, 3) := by decide +kernel
theorem dX4_deleteCell_15 : decode cX4_deleteCell 15 = .ok (.ireturn, 1) := by decide +kernel
theorem dX4_deleteCell_16 : decode cX4_deleteCell 16 = .ok (.aload_n 0, 1) := by decide +kernel
theorem dX4_deleteCell_17 : decode cX4_deleteCell 17 = .ok (.invokevirtual 112, 3) := by decide +kernel
theorem dX4_deleteCell_20 : decode cX4_deleteCell 20 = .ok (.aload_n 0, 1) := by decide +kernel
theorem dX4_deleteCell_21 : decode cX4_deleteCell 21 = .ok (.getfield 7, 3) := by decide +kernel
theorem dX4_deleteCell_24 : decode cX4_deleteCell 24 = .ok (.iconst 0, 1) := by decide +kernel
theorem dX4_deleteCell_25 : decode cX4_deleteCell 25 = .ok (.dup2, 1) := by decide +kernel
theorem dX4_deleteCell_26 : decode cX4_deleteCell 26 = .ok (.iaload, 1) := by decide +kernel
theorem dX4_deleteCell_27 : decode cX4_deleteCell 27 = .ok (.iconst 1, 1) := by decide +kernel
theorem dX4_deleteCell_28 : decode cX4_deleteCell 28 = .ok (.isub, 1) := by decide +kernel
theorem dX4_deleteCell_29 : decode cX4_deleteCell 29 = .ok (.iastore, 1) := by decide +kernel
theorem dX4_deleteCell_30 : decode cX4_deleteCell 30 = .ok (.iload_n 1, 1) := by decide +kernel
theorem dX4_deleteCell_31 : decode cX4_deleteCell 31 = .ok (.istore_n 2, 1) := by decide +kernel
theorem dX4_deleteCell_32 : decode cX4_deleteCell 32 = .ok (.iload_n 2, 1) := by decide +kernel
theorem dX4_deleteCell_33 : decode cX4_deleteCell 33 = .ok (.aload_n 0, 1) := by decide +kernel
theorem dX4_deleteCell_34 : decode cX4_deleteCell 34 = .ok (.getfield 7, 3) := by decide +kernel
theorem dX4_deleteCell_37 : decode cX4_deleteCell 37 = .ok (.iconst 0, 1) := by decide +kernel
theorem dX4_deleteCell_38 : decode cX4_deleteCell 38 = .ok (.iaload, 1) := by decide +kernel
theorem dX4_deleteCell_39 : decode cX4_deleteCell 39 = .ok (.if_icmp .ge 17, 3) := by decide +kernel
theorem dX4_deleteCell_42 : decode cX4_deleteCell 42 = .ok (.aload_n 0, 1) := by decide +kernel
theorem dX4_deleteCell_43 : decode cX4_deleteCell 43 = .ok (.iload_n 2, 1) := by decide +kernel
theorem dX4_deleteCell_44 : decode cX4_deleteCell 44 = .ok (.iconst 1, 1) := by decide +kernel
theorem dX4_deleteCell_45 : decode cX4_deleteCell 45 = .ok (.iadd, 1) := by decide +kernel
theorem dX4_deleteCell_46 : decode cX4_deleteCell 46 = .ok (.iload_n 2, 1) := by decide +kernel
theorem dX4_deleteCell_47 : decode cX4_deleteCell 47 = .ok (.invokevirtual 132, 3) := by decide +kernel
theorem dX4_deleteCell_50 : decode cX4_deleteCell 50 = .ok (.iinc 2 1, 3) := by decide +kernel
theorem dX4_deleteCell_53 : decode cX4_deleteCell 53 = .ok (.goto (-21), 3) := by decide +kernel
theorem dX4_deleteCell_56 : decode cX4_deleteCell 56 = .ok (.aload_n 0, 1) := by decide +kernel
theorem dX4_deleteCell_57 : decode cX4_deleteCell 57 = .ok (.invokevirtual 129, 3) := by decide +kernel
theorem dX4_deleteCell_60 : decode cX4_deleteCell 60 = .ok (.aload_n 0, 1) := by decide +kernel
theorem dX4_deleteCell_61 : decode cX4_deleteCell 61 = .ok (.getfield 7, 3) := by decide +kernel
theorem dX4_deleteCell_64 : decode cX4_deleteCell 64 = .ok (.iconst 0, 1) := by decide +kernel
theorem dX4_deleteCell_65 : decode cX4_deleteCell 65 = .ok (.iaload, 1) := by decide +kernel
theorem dX4_deleteCell_66 : decode cX4_deleteCell 66 = .ok (.ireturn, 1) := by decide +kernel
theorem dX4_moveCell_0 : decode cX4_moveCell 0 = .ok (.aload_n 0, 1) := by decide +kernel
theorem dX4_moveCell_1 : decode cX4_moveCell 1 = .ok (.iload_n 1, 1) := by decide +kernel
theorem dX4_moveCell_2 : decode cX4_moveCell 2 = .ok (.invokevirtual 115, 3) := by decide +kernel
theorem dX4_moveCell_5 : decode cX4_moveCell 5 = .ok (.ifCond .eq 11, 3) := by decide +kernel
theorem dX4_moveCell_8 : decode cX4_moveCell 8 = .ok (.aload_n 0, 1) := by decide +kernel
theorem dX4_moveCell_9 : decode cX4_moveCell 9 = .ok (.iload_n 2, 1) := by decide +kernel
theorem dX4_moveCell_10 : decode cX4_moveCell 10 = .ok (.invokevirtual 115, 3) := by decide +kernel
theorem dX4_moveCell_13 : decode cX4_moveCell 13 = .ok (.ifCond .ne 11, 3) := by decide +kernel
theorem dX4_moveCell_16 : decode cX4_moveCell 16 = .ok (.aload_n 0, 1) := by decide +kernel
theorem dX4_moveCell_17 : decode cX4_moveCell 17 = .ok (.sipush (-10002), 3) := by decide +kernel
theorem dX4_moveCell_20 : decode cX4_moveCell 20 = .ok (.invokevirtual 118, 3) := by decide +kernel
theorem dX4_moveCell_23 : decode cX4_moveCell 23 = .ok (.ireturn, 1) := by decide +kernel
theorem dX4_moveCell_24 : decode cX4_moveCell 24 = .ok (.aload_n 0, 1) := by decide +kernel
theorem dX4_moveCell_25 : decode cX4_moveCell 25 = .ok (.invokevirtual 112, 3) := by decide +kernel
theorem dX4_moveCell_28 : decode cX4_moveCell 28 = .ok (.iconst 0, 1) := by decide +kernel
theorem dX4_moveCell_29 : decode cX4_moveCell 29 = .ok (.istore_n 3, 1) := by decide +kernel
theorem dX4_moveCell_30 : decode cX4_moveCell 30 = .ok (.iload_n 3, 1) := by decide +kernel
theorem dX4_moveCell_31 : decode cX4_moveCell 31 = .ok (.bipush 10, 2) := by decide +kernel
theorem dX4_moveCell_33 : decode cX4_moveCell 33 = .ok (.if_icmp .ge 21, 3) := by decide +kernel
theorem dX4_moveCell_36 : decode cX4_moveCell 36 = .ok (.aload_n 0, 1) := by decide +kernel
theorem dX4_moveCell_37 : decode cX4_moveCell 37 = .ok (.getfield 35, 3) := by decide +kernel
theorem dX4_moveCell_40 : decode cX4_moveCell 40 = .ok (.iload_n 3, 1) := by decide +kernel
theorem dX4_moveCell_41 : decode cX4_moveCell 41 = .ok (.aload_n 0, 1) := by decide +kernel
theorem dX4_moveCell_42 : decode cX4_moveCell 42 = .ok (.iload_n 1, 1) := by decide +kernel
theorem dX4_moveCell_43 : decode cX4_moveCell 43 = .ok (.iload_n 3, 1) := by decide +kernel
theorem dX4_moveCell_44 : decode cX4_moveCell 44 = .ok (.invokevirtual 50, 3) := by decide +kernel
theorem dX4_moveCell_47 : decode cX4_moveCell 47 = .ok (.iastore, 1) := by decide +kernel
theorem dX4_moveCell_48 : decode cX4_moveCell 48 = .ok (.iinc 3 1, 3) := by decide +kernel
theorem dX4_moveCell_51 : decode cX4_moveCell 51 = .ok (.goto (-21), 3) := by decide +kernel
theorem dX4_moveCell_54 : decode cX4_moveCell 54 = .ok (.iload_n 2, 1) := by decide +kernel
theorem dX4_moveCell_55 : decode cX4_moveCell 55 = .ok (.iload_n 1, 1) := by decide +kernel
theorem dX4_moveCell_56 : decode cX4_moveCell 56 = .ok (.if_icmp .le 7, 3) := by decide +kernel
theorem dX4_moveCell_59 : decode cX4_moveCell 59 = .ok (.iconst 1, 1) := by decide +kernel
theorem dX4_moveCell_60 : decode cX4_moveCell 60 = .ok (.goto 4, 3) := by decide +kernel
theorem dX4_moveCell_63 : decode cX4_moveCell 63 = .ok (.iconst (-1), 1) := by decide +kernel
theorem dX4_moveCell_64 : decode cX4_moveCell 64 = .ok (.istore_n 3, 1) := by decide +kernel
theorem dX4_moveCell_65 : decode cX4_moveCell 65 = .ok (.iconst 0, 1) := by decide +kernel
theorem dX4_moveCell_66 : decode cX4_moveCell 66 = .ok (.istore 4, 2) := by decide +kernel
theorem dX4_moveCell_68 : decode cX4_moveCell 68 = .ok (.iload_n 1, 1) := by decide +kernel
theorem dX4_moveCell_69 : decode cX4_moveCell 69 = .ok (.istore 5, 2) := by decide +kernel
theorem dX4_moveCell_71 : decode cX4_moveCell 71 = .ok (.iload 5, 2) := by decide +kernel
theorem dX4_moveCell_73 : decode cX4_moveCell 73 = .ok (.iload_n 2, 1) := by decide +kernel
theorem dX4_moveCell_74 : decode cX4_moveCell 74 = .ok (.if_icmp .eq 25, 3) := by decide +kernel
theorem dX4_moveCell_77 : decode cX4_moveCell 77 = .ok (.aload_n 0, 1) := by decide +kernel
theorem dX4_moveCell_78 : decode cX4_moveCell 78 = .ok (.iload 5, 2) := by decide +kernel
theorem dX4_moveCell_80 : decode cX4_moveCell 80 = .ok (.iload_n 3, 1) := by decide +kernel
theorem dX4_moveCell_81 : decode cX4_moveCell 81 = .ok (.iadd, 1) := by decide +kernel
theorem dX4_moveCell_82 : decode cX4_moveCell 82 = .ok (.iload 5, 2) := by decide +kernel
theorem dX4_moveCell_84 : decode cX4_moveCell 84 = .ok (.invokevirtual 132, 3) := by decide +kernel
theorem dX4_moveCell_87 : decode cX4_moveCell 87 = .ok (.iinc 4 1, 3) := by decide +kernel
theorem dX4_moveCell_90 : decode cX4_moveCell 90 = .ok (.iload 5, 2) := by decide +kernel
theorem dX4_moveCell_92 : decode cX4_moveCell 92 = .ok (.iload_n 3, 1) := by decide +kernel
theorem dX4_moveCell_93 : decode cX4_moveCell 93 = .ok (.iadd, 1) := by decide +kernel
theorem dX4_moveCell_94 : decode cX4_moveCell 94 = .ok (.istore 5, 2) := by decide +kernel
theorem dX4_moveCell_96 : decode cX4_moveCell 96 = .ok (.goto (-25), 3) := by decide +kernel
theorem dX4_moveCell_99 : decode cX4_moveCell 99 = .ok (.iconst 0, 1) := by decide +kernel
theorem dX4_moveCell_100 : decode cX4_moveCell 100 = .ok (.istore 5, 2) := by decide +kernel
theorem dX4_moveCell_102 : decode cX4_moveCell 102 = .ok (.iload 5, 2) := by decide +kernel
theorem dX4_moveCell_104 : decode cX4_moveCell 104 = .ok (.bipush 10, 2) := by decide +kernel
theorem dX4_moveCell_106 : decode cX4_moveCell 106 = .ok (.if_icmp .ge 27, 3) := by decide +kernel
theorem dX4_moveCell_109 : decode cX4_moveCell 109 = .ok (.aload_n 0, 1) := by decide +kernel
theorem dX4_moveCell_110 : decode cX4_moveCell 110 = .ok (.getfield 7, 3) := by decide +kernel
theorem dX4_moveCell_113 : decode cX4_moveCell 113 = .ok (.iload_n 2, 1) := by decide +kernel
theorem dX4_moveCell_114 : decode cX4_moveCell 114 = .ok (.iload 5, 2) := by decide +kernel
theorem dX4_moveCell_116 : decode cX4_moveCell 116 = .ok (.invokestatic 38, 3) := by decide +kernel
theorem dX4_moveCell_119 : decode cX4_moveCell 119 = .ok (.aload_n 0, 1) := by decide +kernel
theorem dX4_moveCell_120 : decode cX4_moveCell 120 = .ok (.getfield 35, 3) := by decide +kernel
theorem dX4_moveCell_123 : decode cX4_moveCell 123 = .ok (.iload 5, 2) := by decide +kernel
theorem dX4_moveCell_125 : decode cX4_moveCell 125 = .ok (.iaload, 1) := by decide +kernel
theorem dX4_moveCell_126 : decode cX4_moveCell 126 = .ok (.iastore, 1) := by decide +kernel
theorem dX4_moveCell_127 : decode cX4_moveCell 127 = .ok (.iinc 5 1, 3) := by decide +kernel
theorem dX4_moveCell_130 : decode cX4_moveCell 130 = .ok (.goto (-28), 3) := by decide +kernel
theorem dX4_moveCell_133 : decode cX4_moveCell 133 = .ok (.aload_n 0, 1) := by decide +kernel
theorem dX4_moveCell_134 : decode cX4_moveCell 134 = .ok (.invokevirtual 129, 3) := by decide +kernel
theorem dX4_moveCell_137 : decode cX4_moveCell 137 = .ok (.iload 4, 2) := by decide +kernel
theorem dX4_moveCell_139 : decode cX4_moveCell 139 = .ok (.ifCond .ne 7, 3) := by decide +kernel
theorem dX4_moveCell_142 : decode cX4_moveCell 142 = .ok (.iconst 0, 1) := by decide +kernel
theorem dX4_moveCell_143 : decode cX4_moveCell 143 = .ok (.goto 7, 3) := by decide +kernel
theorem dX4_moveCell_146 : decode cX4_moveCell 146 = .ok (.iload 4, 2) := by decide +kernel
theorem dX4_moveCell_148 : decode cX4_moveCell 148 = .ok (.iconst 1, 1) := by decide +kernel
theorem dX4_moveCell_149 : decode cX4_moveCell 149 = .ok (.iadd, 1) := by decide +kernel
theorem dX4_moveCell_150 : decode cX4_moveCell 150 = .ok (.ireturn, 1) := by decide +kernel
