theorem dX7_writeProbes_74 : decode cX7_writeProbes 74 = .ok (.iload 5, 2) := by decide +kernel
theorem dX7_writeProbes_76 : decode cX7_writeProbes 76 = .ok (.invokevirtual 221, 3) := by decide +kernel
theorem dX7_writeProbes_79 : decode cX7_writeProbes 79 = .ok (.aload_n 0, 1) := by decide +kernel
theorem dX7_writeProbes_80 : decode cX7_writeProbes 80 = .ok (.aload_n 1, 1) := by decide +kernel
theorem dX7_writeProbes_81 : decode cX7_writeProbes 81 = .ok (.getfield 160, 3) := by decide +kernel
theorem dX7_writeProbes_84 : decode cX7_writeProbes 84 = .ok (.iload 6, 2) := by decide +kernel
theorem dX7_writeProbes_86 : decode cX7_writeProbes 86 = .ok (.iload 5, 2) := by decide +kernel
theorem dX7_writeProbes_88 : decode cX7_writeProbes 88 = .ok (.invokevirtual 221, 3) := by decide +kernel
theorem dX7_writeProbes_91 : decode cX7_writeProbes 91 = .ok (.iinc 6 1, 3) := by decide +kernel
theorem dX7_writeProbes_94 : decode cX7_writeProbes 94 = .ok (.goto (-91), 3) := by decide +kernel
theorem dX7_writeProbes_97 : decode cX7_writeProbes 97 = .ok (.return_, 1) := by decide +kernel
theorem dX7_aheadOp_0 : decode cX7_aheadOp 0 = .ok (.iload_n 0, 1) := by decide +kernel
theorem dX7_aheadOp_1 : decode cX7_aheadOp 1 = .ok (.tableswitch 58 0 6 #[43, 58, 49, 52, 55, 58, 46], 43) := by decide +kernel
theorem dX7_aheadOp_44 : decode cX7_aheadOp 44 = .ok (.bipush 48, 2) := by decide +kernel
theorem dX7_aheadOp_46 : decode cX7_aheadOp 46 = .ok (.ireturn, 1) := by decide +kernel
theorem dX7_aheadOp_47 : decode cX7_aheadOp 47 = .ok (.bipush 56, 2) := by decide +kernel
theorem dX7_aheadOp_49 : decode cX7_aheadOp 49 = .ok (.ireturn, 1) := by decide +kernel
theorem dX7_aheadOp_50 : decode cX7_aheadOp 50 = .ok (.bipush 50, 2) := by decide +kernel
theorem dX7_aheadOp_52 : decode cX7_aheadOp 52 = .ok (.ireturn, 1) := by decide +kernel
theorem dX7_aheadOp_53 : decode cX7_aheadOp 53 = .ok (.bipush 51, 2) := by decide +kernel
theorem dX7_aheadOp_55 : decode cX7_aheadOp 55 = .ok (.ireturn, 1) := by decide +kernel
theorem dX7_aheadOp_56 : decode cX7_aheadOp 56 = .ok (.bipush 53, 2) := by decide +kernel
theorem dX7_aheadOp_58 : decode cX7_aheadOp 58 = .ok (.ireturn, 1) := by decide +kernel
theorem dX7_aheadOp_59 : decode cX7_aheadOp 59 = .ok (.bipush 55, 2) := by decide +kernel
theorem dX7_aheadOp_61 : decode cX7_aheadOp 61 = .ok (.ireturn, 1) := by decide +kernel
theorem dX7_writeInstruction_0 : decode cX7_writeInstruction 0 = .ok (.aload_n 1, 1) := by decide +kernel
theorem dX7_writeInstruction_1 : decode cX7_writeInstruction 1 = .ok (.getfield 119, 3) := by decide +kernel
theorem dX7_writeInstruction_4 : decode cX7_writeInstruction 4 = .ok (.iload_n 2, 1) := by decide +kernel
theorem dX7_writeInstruction_5 : decode cX7_writeInstruction 5 = .ok (.iaload, 1) := by decide +kernel
theorem dX7_writeInstruction_6 : decode cX7_writeInstruction 6 = .ok (.istore_n 3, 1) := by decide +kernel
theorem dX7_writeInstruction_7 : decode cX7_writeInstruction 7 = .ok (.iload_n 3, 1) := by decide +kernel
theorem dX7_writeInstruction_8 : decode cX7_writeInstruction 8 = .ok (.invokestatic 146, 3) := by decide +kernel
theorem dX7_writeInstruction_11 : decode cX7_writeInstruction 11 = .ok (.ifCond .ne 10, 3) := by decide +kernel
theorem dX7_writeInstruction_14 : decode cX7_writeInstruction 14 = .ok (.iload_n 3, 1) := by decide +kernel
theorem dX7_writeInstruction_15 : decode cX7_writeInstruction 15 = .ok (.invokestatic 225, 3) := by decide +kernel
theorem dX7_writeInstruction_18 : decode cX7_writeInstruction 18 = .ok (.ifCond .eq 43, 3) := by decide +kernel
theorem dX7_writeInstruction_21 : decode cX7_writeInstruction 21 = .ok (.aload_n 0, 1) := by decide +kernel
theorem dX7_writeInstruction_22 : decode cX7_writeInstruction 22 = .ok (.getfield 36, 3) := by decide +kernel
theorem dX7_writeInstruction_25 : decode cX7_writeInstruction 25 = .ok (.iload_n 2, 1) := by decide +kernel
theorem dX7_writeInstruction_26 : decode cX7_writeInstruction 26 = .ok (.baload, 1) := by decide +kernel
theorem dX7_writeInstruction_27 : decode cX7_writeInstruction 27 = .ok (.ifCond .eq 10, 3) := by decide +kernel
theorem dX7_writeInstruction_30 : decode cX7_writeInstruction 30 = .ok (.iload_n 3, 1) := by decide +kernel
theorem dX7_writeInstruction_31 : decode cX7_writeInstruction 31 = .ok (.bipush 64, 2) := by decide +kernel
theorem dX7_writeInstruction_33 : decode cX7_writeInstruction 33 = .ok (.iadd, 1) := by decide +kernel
theorem dX7_writeInstruction_34 : decode cX7_writeInstruction 34 = .ok (.goto 4, 3) := by decide +kernel
theorem dX7_writeInstruction_37 : decode cX7_writeInstruction 37 = .ok (.iload_n 3, 1) := by decide +kernel
theorem dX7_writeInstruction_38 : decode cX7_writeInstruction 38 = .ok (.istore 4, 2) := by decide +kernel
theorem dX7_writeInstruction_40 : decode cX7_writeInstruction 40 = .ok (.aload_n 0, 1) := by decide +kernel
theorem dX7_writeInstruction_41 : decode cX7_writeInstruction 41 = .ok (.aload_n 1, 1) := by decide +kernel
theorem dX7_writeInstruction_42 : decode cX7_writeInstruction 42 = .ok (.getfield 160, 3) := by decide +kernel
theorem dX7_writeInstruction_45 : decode cX7_writeInstruction 45 = .ok (.iload 4, 2) := by decide +kernel
theorem dX7_writeInstruction_47 : decode cX7_writeInstruction 47 = .ok (.aload_n 0, 1) := by decide +kernel
theorem dX7_writeInstruction_48 : decode cX7_writeInstruction 48 = .ok (.aload_n 1, 1) := by decide +kernel
theorem dX7_writeInstruction_49 : decode cX7_writeInstruction 49 = .ok (.iload_n 2, 1) := by decide +kernel
theorem dX7_writeInstruction_50 : decode cX7_writeInstruction 50 = .ok (.iconst 0, 1) := by decide +kernel
theorem dX7_writeInstruction_51 : decode cX7_writeInstruction 51 = .ok (.invokevirtual 149, 3) := by decide +kernel
theorem dX7_writeInstruction_54 : decode cX7_writeInstruction 54 = .ok (.iload_n 2, 1) := by decide +kernel
theorem dX7_writeInstruction_55 : decode cX7_writeInstruction 55 = .ok (.invokevirtual 228, 3) := by decide +kernel
theorem dX7_writeInstruction_58 : decode cX7_writeInstruction 58 = .ok (.goto 133, 3) := by decide +kernel
theorem dX7_writeInstruction_61 : decode cX7_writeInstruction 61 = .ok (.iload_n 3, 1) := by decide +kernel
theorem dX7_writeInstruction_62 : decode cX7_writeInstruction 62 = .ok (.bipush 33, 2) := by decide +kernel
theorem dX7_writeInstruction_64 : decode cX7_writeInstruction 64 = .ok (.if_icmp .ne 87, 3) := by decide +kernel
theorem dX7_writeInstruction_67 : decode cX7_writeInstruction 67 = .ok (.aload_n 0, 1) := by decide +kernel
theorem dX7_writeInstruction_68 : decode cX7_writeInstruction 68 = .ok (.getfield 62, 3) := by decide +kernel
theorem dX7_writeInstruction_71 : decode cX7_writeInstruction 71 = .ok (.istore 4, 2) := by decide +kernel
theorem dX7_writeInstruction_73 : decode cX7_writeInstruction 73 = .ok (.aload_n 0, 1) := by decide +kernel
theorem dX7_writeInstruction_74 : decode cX7_writeInstruction 74 = .ok (.aload_n 1, 1) := by decide +kernel
theorem dX7_writeInstruction_75 : decode cX7_writeInstruction 75 = .ok (.getfield 160, 3) := by decide +kernel
theorem dX7_writeInstruction_78 : decode cX7_writeInstruction 78 = .ok (.iload_n 3, 1) := by decide +kernel
theorem dX7_writeInstruction_79 : decode cX7_writeInstruction 79 = .ok (.iload_n 2, 1) := by decide +kernel
theorem dX7_writeInstruction_80 : decode cX7_writeInstruction 80 = .ok (.invokevirtual 221, 3) := by decide +kernel
theorem dX7_writeInstruction_83 : decode cX7_writeInstruction 83 = .ok (.aload_n 0, 1) := by decide +kernel
theorem dX7_writeInstruction_84 : decode cX7_writeInstruction 84 = .ok (.aload_n 1, 1) := by decide +kernel
theorem dX7_writeInstruction_85 : decode cX7_writeInstruction 85 = .ok (.getfield 160, 3) := by decide +kernel
theorem dX7_writeInstruction_88 : decode cX7_writeInstruction 88 = .ok (.aload_n 1, 1) := by decide +kernel
theorem dX7_writeInstruction_89 : decode cX7_writeInstruction 89 = .ok (.getfield 119, 3) := by decide +kernel
theorem dX7_writeInstruction_92 : decode cX7_writeInstruction 92 = .ok (.iload_n 2, 1) := by decide +kernel
theorem dX7_writeInstruction_93 : decode cX7_writeInstruction 93 = .ok (.iconst 1, 1) := by decide +kernel
theorem dX7_writeInstruction_94 : decode cX7_writeInstruction 94 = .ok (.iadd, 1) := by decide +kernel
theorem dX7_writeInstruction_95 : decode cX7_writeInstruction 95 = .ok (.invokestatic 232, 3) := by decide +kernel
theorem dX7_writeInstruction_98 : decode cX7_writeInstruction 98 = .ok (.iload_n 2, 1) := by decide +kernel
theorem dX7_writeInstruction_99 : decode cX7_writeInstruction 99 = .ok (.invokevirtual 221, 3) := by decide +kernel
theorem dX7_writeInstruction_102 : decode cX7_writeInstruction 102 = .ok (.aload_n 1, 1) := by decide +kernel
theorem dX7_writeInstruction_103 : decode cX7_writeInstruction 103 = .ok (.getfield 119, 3) := by decide +kernel
theorem dX7_writeInstruction_106 : decode cX7_writeInstruction 106 = .ok (.iload_n 2, 1) := by decide +kernel
theorem dX7_writeInstruction_107 : decode cX7_writeInstruction 107 = .ok (.invokestatic 236, 3) := by decide +kernel
theorem dX7_writeInstruction_110 : decode cX7_writeInstruction 110 = .ok (.istore 5, 2) := by decide +kernel
theorem dX7_writeInstruction_112 : decode cX7_writeInstruction 112 = .ok (.iconst 0, 1) := by decide +kernel
theorem dX7_writeInstruction_113 : decode cX7_writeInstruction 113 = .ok (.istore 6, 2) := by decide +kernel
theorem dX7_writeInstruction_115 : decode cX7_writeInstruction 115 = .ok (.iload 6, 2) := by decide +kernel
theorem dX7_writeInstruction_117 : decode cX7_writeInstruction 117 = .ok (.iload 5, 2) := by decide +kernel
theorem dX7_writeInstruction_119 : decode cX7_writeInstruction 119 = .ok (.if_icmp .ge 29, 3) := by decide +kernel
theorem dX7_writeInstruction_122 : decode cX7_writeInstruction 122 = .ok (.aload_n 0, 1) := by decide +kernel
theorem dX7_writeInstruction_123 : decode cX7_writeInstruction 123 = .ok (.aload_n 1, 1) := by decide +kernel
theorem dX7_writeInstruction_124 : decode cX7_writeInstruction 124 = .ok (.getfield 160, 3) := by decide +kernel
theorem dX7_writeInstruction_127 : decode cX7_writeInstruction 127 = .ok (.aload_n 0, 1) := by decide +kernel
theorem dX7_writeInstruction_128 : decode cX7_writeInstruction 128 = .ok (.aload_n 1, 1) := by decide +kernel
theorem dX7_writeInstruction_129 : decode cX7_writeInstruction 129 = .ok (.iload_n 2, 1) := by decide +kernel
theorem dX7_writeInstruction_130 : decode cX7_writeInstruction 130 = .ok (.iload 6, 2) := by decide +kernel
theorem dX7_writeInstruction_132 : decode cX7_writeInstruction 132 = .ok (.invokevirtual 149, 3) := by decide +kernel
theorem dX7_writeInstruction_135 : decode cX7_writeInstruction 135 = .ok (.iload 4, 2) := by decide +kernel
theorem dX7_writeInstruction_137 : decode cX7_writeInstruction 137 = .ok (.isub, 1) := by decide +kernel
theorem dX7_writeInstruction_138 : decode cX7_writeInstruction 138 = .ok (.iload_n 2, 1) := by decide +kernel
theorem dX7_writeInstruction_139 : decode cX7_writeInstruction 139 = .ok (.invokevirtual 239, 3) := by decide +kernel
theorem dX7_writeInstruction_142 : decode cX7_writeInstruction 142 = .ok (.iinc 6 1, 3) := by decide +kernel
theorem dX7_writeInstruction_145 : decode cX7_writeInstruction 145 = .ok (.goto (-30), 3) := by decide +kernel
theorem dX7_writeInstruction_148 : decode cX7_writeInstruction 148 = .ok (.goto 43, 3) := by decide +kernel
theorem dX7_writeInstruction_151 : decode cX7_writeInstruction 151 = .ok (.iconst 0, 1) := by decide +kernel
theorem dX7_writeInstruction_152 : decode cX7_writeInstruction 152 = .ok (.istore 4, 2) := by decide +kernel
theorem dX7_writeInstruction_154 : decode cX7_writeInstruction 154 = .ok (.iload 4, 2) := by decide +kernel
theorem dX7_writeInstruction_156 : decode cX7_writeInstruction 156 = .ok (.aload_n 1, 1) := by decide +kernel
theorem dX7_writeInstruction_157 : decode cX7_writeInstruction 157 = .ok (.getfield 122, 3) := by decide +kernel
theorem dX7_writeInstruction_160 : decode cX7_writeInstruction 160 = .ok (.iload_n 2, 1) := by decide +kernel
theorem dX7_writeInstruction_161 : decode cX7_writeInstruction 161 = .ok (.iaload, 1) := by decide +kernel
theorem dX7_writeInstruction_162 : decode cX7_writeInstruction 162 = .ok (.if_icmp .ge 29, 3) := by decide +kernel
theorem dX7_writeInstruction_165 : decode cX7_writeInstruction 165 = .ok (.aload_n 0, 1) := by decide +kernel
theorem dX7_writeInstruction_166 : decode cX7_writeInstruction 166 = .ok (.aload_n 1, 1) := by decide +kernel
theorem dX7_writeInstruction_167 : decode cX7_writeInstruction 167 = .ok (.getfield 160, 3) := by decide +kernel
theorem dX7_writeInstruction_170 : decode cX7_writeInstruction 170 = .ok (.aload_n 1, 1) := by decide +kernel
theorem dX7_writeInstruction_171 : decode cX7_writeInstruction 171 = .ok (.getfield 119, 3) := by decide +kernel
theorem dX7_writeInstruction_174 : decode cX7_writeInstruction 174 = .ok (.iload_n 2, 1) := by decide +kernel
theorem dX7_writeInstruction_175 : decode cX7_writeInstruction 175 = .ok (.iload 4, 2) := by decide +kernel
theorem dX7_writeInstruction_177 : decode cX7_writeInstruction 177 = .ok (.iadd, 1) := by decide +kernel
theorem dX7_writeInstruction_178 : decode cX7_writeInstruction 178 = .ok (.invokestatic 232, 3) := by decide +kernel
theorem dX7_writeInstruction_181 : decode cX7_writeInstruction 181 = .ok (.iload_n 2, 1) := by decide +kernel
theorem dX7_writeInstruction_182 : decode cX7_writeInstruction 182 = .ok (.invokevirtual 221, 3) := by decide +kernel
theorem dX7_writeInstruction_185 : decode cX7_writeInstruction 185 = .ok (.iinc 4 1, 3) := by decide +kernel
theorem dX7_writeInstruction_188 : decode cX7_writeInstruction 188 = .ok (.goto (-34), 3) := by decide +kernel
theorem dX7_writeInstruction_191 : decode cX7_writeInstruction 191 = .ok (.return_, 1) := by decide +kernel
theorem dX7_writeBehind_0 : decode cX7_writeBehind 0 = .ok (.aload_n 0, 1) := by decide +kernel
theorem dX7_writeBehind_1 : decode cX7_writeBehind 1 = .ok (.getfield 15, 3) := by decide +kernel
theorem dX7_writeBehind_4 : decode cX7_writeBehind 4 = .ok (.iload_n 3, 1) := by decide +kernel
theorem dX7_writeBehind_5 : decode cX7_writeBehind 5 = .ok (.iaload, 1) := by decide +kernel
theorem dX7_writeBehind_6 : decode cX7_writeBehind 6 = .ok (.ifCond .ne 4, 3) := by decide +kernel
theorem dX7_writeBehind_9 : decode cX7_writeBehind 9 = .ok (.return_, 1) := by decide +kernel
theorem dX7_writeBehind_10 : decode cX7_writeBehind 10 = .ok (.iconst 0, 1) := by decide +kernel
theorem dX7_writeBehind_11 : decode cX7_writeBehind 11 = .ok (.istore 4, 2) := by decide +kernel
theorem dX7_writeBehind_13 : decode cX7_writeBehind 13 = .ok (.iload 4, 2) := by decide +kernel
theorem dX7_writeBehind_15 : decode cX7_writeBehind 15 = .ok (.aload_n 2, 1) := by decide +kernel
theorem dX7_writeBehind_16 : decode cX7_writeBehind 16 = .ok (.getfield 89, 3) := by decide +kernel
theorem dX7_writeBehind_19 : decode cX7_writeBehind 19 = .ok (.if_icmp .ge 101, 3) := by decide +kernel
theorem dX7_writeBehind_22 : decode cX7_writeBehind 22 = .ok (.aload_n 2, 1) := by decide +kernel
theorem dX7_writeBehind_23 : decode cX7_writeBehind 23 = .ok (.iload 4, 2) := by decide +kernel
theorem dX7_writeBehind_25 : decode cX7_writeBehind 25 = .ok (.aload_n 1, 1) := by decide +kernel
theorem dX7_writeBehind_26 : decode cX7_writeBehind 26 = .ok (.getfield 100, 3) := by decide +kernel
theorem dX7_writeBehind_29 : decode cX7_writeBehind 29 = .ok (.iload_n 3, 1) := by decide +kernel
theorem dX7_writeBehind_30 : decode cX7_writeBehind 30 = .ok (.invokevirtual 214, 3) := by decide +kernel
theorem dX7_writeBehind_33 : decode cX7_writeBehind 33 = .ok (.ifCond .ne 6, 3) := by decide +kernel
theorem dX7_writeBehind_36 : decode cX7_writeBehind 36 = .ok (.goto 78, 3) := by decide +kernel
theorem dX7_writeBehind_39 : decode cX7_writeBehind 39 = .ok (.aload_n 2, 1) := by decide +kernel
theorem dX7_writeBehind_40 : decode cX7_writeBehind 40 = .ok (.iload 4, 2) := by decide +kernel
theorem dX7_writeBehind_42 : decode cX7_writeBehind 42 = .ok (.invokevirtual 211, 3) := by decide +kernel
theorem dX7_writeBehind_45 : decode cX7_writeBehind 45 = .ok (.istore 5, 2) := by decide +kernel
theorem dX7_writeBehind_47 : decode cX7_writeBehind 47 = .ok (.iload 5, 2) := by decide +kernel
theorem dX7_writeBehind_49 : decode cX7_writeBehind 49 = .ok (.iconst 1, 1) := by decide +kernel
theorem dX7_writeBehind_50 : decode cX7_writeBehind 50 = .ok (.if_icmp .ne 18, 3) := by decide +kernel
theorem dX7_writeBehind_53 : decode cX7_writeBehind 53 = .ok (.aload_n 0, 1) := by decide +kernel
theorem dX7_writeBehind_54 : decode cX7_writeBehind 54 = .ok (.aload_n 1, 1) := by decide +kernel
theorem dX7_writeBehind_55 : decode cX7_writeBehind 55 = .ok (.getfield 160, 3) := by decide +kernel
theorem dX7_writeBehind_58 : decode cX7_writeBehind 58 = .ok (.iload 4, 2) := by decide +kernel
theorem dX7_writeBehind_60 : decode cX7_writeBehind 60 = .ok (.iconst 0, 1) := by decide +kernel
theorem dX7_writeBehind_61 : decode cX7_writeBehind 61 = .ok (.iload_n 3, 1) := by decide +kernel
theorem dX7_writeBehind_62 : decode cX7_writeBehind 62 = .ok (.invokevirtual 242, 3) := by decide +kernel
theorem dX7_writeBehind_65 : decode cX7_writeBehind 65 = .ok (.goto 49, 3) := by decide +kernel
theorem dX7_writeBehind_68 : decode cX7_writeBehind 68 = .ok (.iload 5, 2) := by decide +kernel
theorem dX7_writeBehind_70 : decode cX7_writeBehind 70 = .ok (.iconst 4, 1) := by decide +kernel
theorem dX7_writeBehind_71 : decode cX7_writeBehind 71 = .ok (.if_icmp .eq 10, 3) := by decide +kernel
theorem dX7_writeBehind_74 : decode cX7_writeBehind 74 = .ok (.iload 5, 2) := by decide +kernel
theorem dX7_writeBehind_76 : decode cX7_writeBehind 76 = .ok (.bipush 7, 2) := by decide +kernel
theorem dX7_writeBehind_78 : decode cX7_writeBehind 78 = .ok (.if_icmp .ne 36, 3) := by decide +kernel
theorem dX7_writeBehind_81 : decode cX7_writeBehind 81 = .ok (.aload_n 0, 1) := by decide +kernel
theorem dX7_writeBehind_82 : decode cX7_writeBehind 82 = .ok (.aload_n 1, 1) := by decide +kernel
theorem dX7_writeBehind_83 : decode cX7_writeBehind 83 = .ok (.getfield 160, 3) := by decide +kernel
theorem dX7_writeBehind_86 : decode cX7_writeBehind 86 = .ok (.iload 5, 2) := by decide +kernel
theorem dX7_writeBehind_88 : decode cX7_writeBehind 88 = .ok (.iconst 4, 1) := by decide +kernel
theorem dX7_writeBehind_89 : decode cX7_writeBehind 89 = .ok (.if_icmp .ne 8, 3) := by decide +kernel
theorem dX7_writeBehind_92 : decode cX7_writeBehind 92 = .ok (.bipush 54, 2) := by decide +kernel
theorem dX7_writeBehind_94 : decode cX7_writeBehind 94 = .ok (.goto 5, 3) := by decide +kernel
theorem dX7_writeBehind_97 : decode cX7_writeBehind 97 = .ok (.bipush 57, 2) := by decide +kernel
theorem dX7_writeBehind_99 : decode cX7_writeBehind 99 = .ok (.iload_n 3, 1) := by decide +kernel
theorem dX7_writeBehind_100 : decode cX7_writeBehind 100 = .ok (.invokevirtual 221, 3) := by decide +kernel
theorem dX7_writeBehind_103 : decode cX7_writeBehind 103 = .ok (.aload_n 0, 1) := by decide +kernel
theorem dX7_writeBehind_104 : decode cX7_writeBehind 104 = .ok (.aload_n 1, 1) := by decide +kernel
theorem dX7_writeBehind_105 : decode cX7_writeBehind 105 = .ok (.getfield 160, 3) := by decide +kernel
theorem dX7_writeBehind_108 : decode cX7_writeBehind 108 = .ok (.iload 4, 2) := by decide +kernel
theorem dX7_writeBehind_110 : decode cX7_writeBehind 110 = .ok (.iload_n 3, 1) := by decide +kernel
theorem dX7_writeBehind_111 : decode cX7_writeBehind 111 = .ok (.invokevirtual 221, 3) := by decide +kernel
theorem dX7_writeBehind_114 : decode cX7_writeBehind 114 = .ok (.iinc 4 1, 3) := by decide +kernel
theorem dX7_writeBehind_117 : decode cX7_writeBehind 117 = .ok (.goto (-104), 3) := by decide +kernel
theorem dX7_writeBehind_120 : decode cX7_writeBehind 120 = .ok (.return_, 1) := by decide +kernel
theorem dX7_writeSidePads_0 : decode cX7_writeSidePads 0 = .ok (.iconst 0, 1) := by decide +kernel
theorem dX7_writeSidePads_1 : decode cX7_writeSidePads 1 = .ok (.istore_n 3, 1) := by decide +kernel
theorem dX7_writeSidePads_2 : decode cX7_writeSidePads 2 = .ok (.iload_n 3, 1) := by decide +kernel
theorem dX7_writeSidePads_3 : decode cX7_writeSidePads 3 = .ok (.aload_n 1, 1) := by decide +kernel
theorem dX7_writeSidePads_4 : decode cX7_writeSidePads 4 = .ok (.getfield 116, 3) := by decide +kernel
theorem dX7_writeSidePads_7 : decode cX7_writeSidePads 7 = .ok (.if_icmp .ge 117, 3) := by decide +kernel
theorem dX7_writeSidePads_10 : decode cX7_writeSidePads 10 = .ok (.aload_n 0, 1) := by decide +kernel
theorem dX7_writeSidePads_11 : decode cX7_writeSidePads 11 = .ok (.getfield 18, 3) := by decide +kernel
theorem dX7_writeSidePads_14 : decode cX7_writeSidePads 14 = .ok (.iload_n 3, 1) := by decide +kernel
theorem dX7_writeSidePads_15 : decode cX7_writeSidePads 15 = .ok (.iaload, 1) := by decide +kernel
theorem dX7_writeSidePads_16 : decode cX7_writeSidePads 16 = .ok (.ifCond .ne 6, 3) := by decide +kernel
theorem dX7_writeSidePads_19 : decode cX7_writeSidePads 19 = .ok (.goto 99, 3) := by decide +kernel
theorem dX7_writeSidePads_22 : decode cX7_writeSidePads 22 = .ok (.iconst 0, 1) := by decide +kernel
theorem dX7_writeSidePads_23 : decode cX7_writeSidePads 23 = .ok (.istore 4, 2) := by decide +kernel
theorem dX7_writeSidePads_25 : decode cX7_writeSidePads 25 = .ok (.iload 4, 2) := by decide +kernel
theorem dX7_writeSidePads_27 : decode cX7_writeSidePads 27 = .ok (.aload_n 2, 1) := by decide +kernel
theorem dX7_writeSidePads_28 : decode cX7_writeSidePads 28 = .ok (.getfield 89, 3) := by decide +kernel
theorem dX7_writeSidePads_31 : decode cX7_writeSidePads 31 = .ok (.if_icmp .ge 45, 3) := by decide +kernel
theorem dX7_writeSidePads_34 : decode cX7_writeSidePads 34 = .ok (.aload_n 2, 1) := by decide +kernel
theorem dX7_writeSidePads_35 : decode cX7_writeSidePads 35 = .ok (.iload 4, 2) := by decide +kernel
theorem dX7_writeSidePads_37 : decode cX7_writeSidePads 37 = .ok (.invokevirtual 211, 3) := by decide +kernel
theorem dX7_writeSidePads_40 : decode cX7_writeSidePads 40 = .ok (.iconst 1, 1) := by decide +kernel
theorem dX7_writeSidePads_41 : decode cX7_writeSidePads 41 = .ok (.if_icmp .ne 29, 3) := by decide +kernel
theorem dX7_writeSidePads_44 : decode cX7_writeSidePads 44 = .ok (.aload_n 2, 1) := by decide +kernel
theorem dX7_writeSidePads_45 : decode cX7_writeSidePads 45 = .ok (.iload 4, 2) := by decide +kernel
theorem dX7_writeSidePads_47 : decode cX7_writeSidePads 47 = .ok (.aload_n 1, 1) := by decide +kernel
theorem dX7_writeSidePads_48 : decode cX7_writeSidePads 48 = .ok (.getfield 100, 3) := by decide +kernel
theorem dX7_writeSidePads_51 : decode cX7_writeSidePads 51 = .ok (.iload_n 3, 1) := by decide +kernel
theorem dX7_writeSidePads_52 : decode cX7_writeSidePads 52 = .ok (.invokevirtual 214, 3) := by decide +kernel
theorem dX7_writeSidePads_55 : decode cX7_writeSidePads 55 = .ok (.ifCond .eq 15, 3) := by decide +kernel
theorem dX7_writeSidePads_58 : decode cX7_writeSidePads 58 = .ok (.aload_n 0, 1) := by decide +kernel
theorem dX7_writeSidePads_59 : decode cX7_writeSidePads 59 = .ok (.aload_n 1, 1) := by decide +kernel
theorem dX7_writeSidePads_60 : decode cX7_writeSidePads 60 = .ok (.getfield 160, 3) := by decide +kernel
theorem dX7_writeSidePads_63 : decode cX7_writeSidePads 63 = .ok (.iload 4, 2) := by decide +kernel
theorem dX7_writeSidePads_65 : decode cX7_writeSidePads 65 = .ok (.iconst 1, 1) := by decide +kernel
theorem dX7_writeSidePads_66 : decode cX7_writeSidePads 66 = .ok (.iconst (-1), 1) := by decide +kernel
theorem dX7_writeSidePads_67 : decode cX7_writeSidePads 67 = .ok (.invokevirtual 242, 3) := by decide +kernel
theorem dX7_writeSidePads_70 : decode cX7_writeSidePads 70 = .ok (.iinc 4 1, 3) := by decide +kernel
theorem dX7_writeSidePads_73 : decode cX7_writeSidePads 73 = .ok (.goto (-48), 3) := by decide +kernel
theorem dX7_writeSidePads_76 : decode cX7_writeSidePads 76 = .ok (.aload_n 0, 1) := by decide +kernel
theorem dX7_writeSidePads_77 : decode cX7_writeSidePads 77 = .ok (.aload_n 1, 1) := by decide +kernel
theorem dX7_writeSidePads_78 : decode cX7_writeSidePads 78 = .ok (.getfield 119, 3) := by decide +kernel
theorem dX7_writeSidePads_81 : decode cX7_writeSidePads 81 = .ok (.iload_n 3, 1) := by decide +kernel
theorem dX7_writeSidePads_82 : decode cX7_writeSidePads 82 = .ok (.iconst 0, 1) := by decide +kernel
theorem dX7_writeSidePads_83 : decode cX7_writeSidePads 83 = .ok (.invokestatic 139, 3) := by decide +kernel
theorem dX7_writeSidePads_86 : decode cX7_writeSidePads 86 = .ok (.invokevirtual 142, 3) := by decide +kernel
theorem dX7_writeSidePads_89 : decode cX7_writeSidePads 89 = .ok (.istore 4, 2) := by decide +kernel
theorem dX7_writeSidePads_91 : decode cX7_writeSidePads 91 = .ok (.aload_n 0, 1) := by decide +kernel
theorem dX7_writeSidePads_92 : decode cX7_writeSidePads 92 = .ok (.aload_n 1, 1) := by decide +kernel
theorem dX7_writeSidePads_93 : decode cX7_writeSidePads 93 = .ok (.getfield 160, 3) := by decide +kernel
theorem dX7_writeSidePads_96 : decode cX7_writeSidePads 96 = .ok (.aload_n 0, 1) := by decide +kernel
theorem dX7_writeSidePads_97 : decode cX7_writeSidePads 97 = .ok (.getfield 40, 3) := by decide +kernel
theorem dX7_writeSidePads_100 : decode cX7_writeSidePads 100 = .ok (.iload_n 3, 1) := by decide +kernel
theorem dX7_writeSidePads_101 : decode cX7_writeSidePads 101 = .ok (.baload, 1) := by decide +kernel
theorem dX7_writeSidePads_102 : decode cX7_writeSidePads 102 = .ok (.ifCond .eq 8, 3) := by decide +kernel
theorem dX7_writeSidePads_105 : decode cX7_writeSidePads 105 = .ok (.bipush 84, 2) := by decide +kernel
theorem dX7_writeSidePads_107 : decode cX7_writeSidePads 107 = .ok (.goto 5, 3) := by decide +kernel
theorem dX7_writeSidePads_110 : decode cX7_writeSidePads 110 = .ok (.bipush 20, 2) := by decide +kernel
theorem dX7_writeSidePads_112 : decode cX7_writeSidePads 112 = .ok (.iload 4, 2) := by decide +kernel
theorem dX7_writeSidePads_114 : decode cX7_writeSidePads 114 = .ok (.iconst (-1), 1) := by decide +kernel
theorem dX7_writeSidePads_115 : decode cX7_writeSidePads 115 = .ok (.invokevirtual 228, 3) := by decide +kernel
theorem dX7_writeSidePads_118 : decode cX7_writeSidePads 118 = .ok (.iinc 3 1, 3) := by decide +kernel
theorem dX7_writeSidePads_121 : decode cX7_writeSidePads 121 = .ok (.goto (-119), 3) := by decide +kernel
theorem dX7_writeSidePads_124 : decode cX7_writeSidePads 124 = .ok (.return_, 1) := by decide +kernel
theorem dX7_writeCaughtPads_0 : decode cX7_writeCaughtPads 0 = .ok (.iconst 0, 1) := by decide +kernel
theorem dX7_writeCaughtPads_1 : decode cX7_writeCaughtPads 1 = .ok (.istore_n 3, 1) := by decide +kernel
theorem dX7_writeCaughtPads_2 : decode cX7_writeCaughtPads 2 = .ok (.iload_n 3, 1) := by decide +kernel
theorem dX7_writeCaughtPads_3 : decode cX7_writeCaughtPads 3 = .ok (.aload_n 1, 1) := by decide +kernel
theorem dX7_writeCaughtPads_4 : decode cX7_writeCaughtPads 4 = .ok (.getfield 125, 3) := by decide +kernel
theorem dX7_writeCaughtPads_7 : decode cX7_writeCaughtPads 7 = .ok (.if_icmp .ge 70, 3) := by decide +kernel
theorem dX7_writeCaughtPads_10 : decode cX7_writeCaughtPads 10 = .ok (.aload_n 0, 1) := by decide +kernel
theorem dX7_writeCaughtPads_11 : decode cX7_writeCaughtPads 11 = .ok (.aload_n 1, 1) := by decide +kernel
theorem dX7_writeCaughtPads_12 : decode cX7_writeCaughtPads 12 = .ok (.iload_n 3, 1) := by decide +kernel
theorem dX7_writeCaughtPads_13 : decode cX7_writeCaughtPads 13 = .ok (.invokevirtual 128, 3) := by decide +kernel
theorem dX7_writeCaughtPads_16 : decode cX7_writeCaughtPads 16 = .ok (.ifCond .le 55, 3) := by decide +kernel
theorem dX7_writeCaughtPads_19 : decode cX7_writeCaughtPads 19 = .ok (.aload_n 1, 1) := by decide +kernel
theorem dX7_writeCaughtPads_20 : decode cX7_writeCaughtPads 20 = .ok (.getfield 132, 3) := by decide +kernel
theorem dX7_writeCaughtPads_23 : decode cX7_writeCaughtPads 23 = .ok (.iload_n 3, 1) := by decide +kernel
theorem dX7_writeCaughtPads_24 : decode cX7_writeCaughtPads 24 = .ok (.iconst 2, 1) := by decide +kernel
theorem dX7_writeCaughtPads_25 : decode cX7_writeCaughtPads 25 = .ok (.invokestatic 135, 3) := by decide +kernel
theorem dX7_writeCaughtPads_28 : decode cX7_writeCaughtPads 28 = .ok (.istore 4, 2) := by decide +kernel
theorem dX7_writeCaughtPads_30 : decode cX7_writeCaughtPads 30 = .ok (.aload_n 0, 1) := by decide +kernel
theorem dX7_writeCaughtPads_31 : decode cX7_writeCaughtPads 31 = .ok (.aload_n 1, 1) := by decide +kernel
theorem dX7_writeCaughtPads_32 : decode cX7_writeCaughtPads 32 = .ok (.aload_n 2, 1) := by decide +kernel
theorem dX7_writeCaughtPads_33 : decode cX7_writeCaughtPads 33 = .ok (.iconst 5, 1) := by decide +kernel
theorem dX7_writeCaughtPads_34 : decode cX7_writeCaughtPads 34 = .ok (.iload 4, 2) := by decide +kernel
theorem dX7_writeCaughtPads_36 : decode cX7_writeCaughtPads 36 = .ok (.iconst (-1), 1) := by decide +kernel
theorem dX7_writeCaughtPads_37 : decode cX7_writeCaughtPads 37 = .ok (.invokevirtual 169, 3) := by decide +kernel
theorem dX7_writeCaughtPads_40 : decode cX7_writeCaughtPads 40 = .ok (.aload_n 0, 1) := by decide +kernel
theorem dX7_writeCaughtPads_41 : decode cX7_writeCaughtPads 41 = .ok (.aload_n 1, 1) := by decide +kernel
theorem dX7_writeCaughtPads_42 : decode cX7_writeCaughtPads 42 = .ok (.getfield 160, 3) := by decide +kernel
theorem dX7_writeCaughtPads_45 : decode cX7_writeCaughtPads 45 = .ok (.aload_n 0, 1) := by decide +kernel
theorem dX7_writeCaughtPads_46 : decode cX7_writeCaughtPads 46 = .ok (.getfield 43, 3) := by decide +kernel
theorem dX7_writeCaughtPads_49 : decode cX7_writeCaughtPads 49 = .ok (.iload_n 3, 1) := by decide +kernel
theorem dX7_writeCaughtPads_50 : decode cX7_writeCaughtPads 50 = .ok (.baload, 1) := by decide +kernel
theorem dX7_writeCaughtPads_51 : decode cX7_writeCaughtPads 51 = .ok (.ifCond .eq 8, 3) := by decide +kernel
theorem dX7_writeCaughtPads_54 : decode cX7_writeCaughtPads 54 = .ok (.bipush 84, 2) := by decide +kernel
theorem dX7_writeCaughtPads_56 : decode cX7_writeCaughtPads 56 = .ok (.goto 5, 3) := by decide +kernel
theorem dX7_writeCaughtPads_59 : decode cX7_writeCaughtPads 59 = .ok (.bipush 20, 2) := by decide +kernel
theorem dX7_writeCaughtPads_61 : decode cX7_writeCaughtPads 61 = .ok (.aload_n 0, 1) := by decide +kernel
theorem dX7_writeCaughtPads_62 : decode cX7_writeCaughtPads 62 = .ok (.iload 4, 2) := by decide +kernel
theorem dX7_writeCaughtPads_64 : decode cX7_writeCaughtPads 64 = .ok (.invokevirtual 142, 3) := by decide +kernel
theorem dX7_writeCaughtPads_67 : decode cX7_writeCaughtPads 67 = .ok (.iconst (-1), 1) := by decide +kernel
theorem dX7_writeCaughtPads_68 : decode cX7_writeCaughtPads 68 = .ok (.invokevirtual 228, 3) := by decide +kernel
theorem dX7_writeCaughtPads_71 : decode cX7_writeCaughtPads 71 = .ok (.iinc 3 1, 3) := by decide +kernel
theorem dX7_writeCaughtPads_74 : decode cX7_writeCaughtPads 74 = .ok (.goto (-72), 3) := by decide +kernel
theorem dX7_writeCaughtPads_77 : decode cX7_writeCaughtPads 77 = .ok (.return_, 1) := by decide +kernel
theorem dX7_writeLeftPad_0 : decode cX7_writeLeftPad 0 = .ok (.aload_n 0, 1) := by decide +kernel
theorem dX7_writeLeftPad_1 : decode cX7_writeLeftPad 1 = .ok (.getfield 50, 3) := by decide +kernel
theorem dX7_writeLeftPad_4 : decode cX7_writeLeftPad 4 = .ok (.ifCond .ne 4, 3) := by decide +kernel
theorem dX7_writeLeftPad_7 : decode cX7_writeLeftPad 7 = .ok (.return_, 1) := by decide +kernel
theorem dX7_writeLeftPad_8 : decode cX7_writeLeftPad 8 = .ok (.iconst 0, 1) := by decide +kernel
theorem dX7_writeLeftPad_9 : decode cX7_writeLeftPad 9 = .ok (.istore_n 3, 1) := by decide +kernel
theorem dX7_writeLeftPad_10 : decode cX7_writeLeftPad 10 = .ok (.iload_n 3, 1) := by decide +kernel
theorem dX7_writeLeftPad_11 : decode cX7_writeLeftPad 11 = .ok (.aload_n 2, 1) := by decide +kernel
theorem dX7_writeLeftPad_12 : decode cX7_writeLeftPad 12 = .ok (.getfield 89, 3) := by decide +kernel
theorem dX7_writeLeftPad_15 : decode cX7_writeLeftPad 15 = .ok (.if_icmp .ge 52, 3) := by decide +kernel
theorem dX7_writeLeftPad_18 : decode cX7_writeLeftPad 18 = .ok (.aload_n 2, 1) := by decide +kernel
theorem dX7_writeLeftPad_19 : decode cX7_writeLeftPad 19 = .ok (.iload_n 3, 1) := by decide +kernel
theorem dX7_writeLeftPad_20 : decode cX7_writeLeftPad 20 = .ok (.invokevirtual 211, 3) := by decide +kernel
theorem dX7_writeLeftPad_23 : decode cX7_writeLeftPad 23 = .ok (.iconst 3, 1) := by decide +kernel
theorem dX7_writeLeftPad_24 : decode cX7_writeLeftPad 24 = .ok (.if_icmp .ne 37, 3) := by decide +kernel
theorem dX7_writeLeftPad_27 : decode cX7_writeLeftPad 27 = .ok (.aload_n 2, 1) := by decide +kernel
theorem dX7_writeLeftPad_28 : decode cX7_writeLeftPad 28 = .ok (.iload_n 3, 1) := by decide +kernel
theorem dX7_writeLeftPad_29 : decode cX7_writeLeftPad 29 = .ok (.aload_n 1, 1) := by decide +kernel
theorem dX7_writeLeftPad_30 : decode cX7_writeLeftPad 30 = .ok (.getfield 100, 3) := by decide +kernel
theorem dX7_writeLeftPad_33 : decode cX7_writeLeftPad 33 = .ok (.iconst 0, 1) := by decide +kernel
theorem dX7_writeLeftPad_34 : decode cX7_writeLeftPad 34 = .ok (.invokevirtual 214, 3) := by decide +kernel
theorem dX7_writeLeftPad_37 : decode cX7_writeLeftPad 37 = .ok (.ifCond .eq 24, 3) := by decide +kernel
theorem dX7_writeLeftPad_40 : decode cX7_writeLeftPad 40 = .ok (.aload_n 0, 1) := by decide +kernel
theorem dX7_writeLeftPad_41 : decode cX7_writeLeftPad 41 = .ok (.aload_n 1, 1) := by decide +kernel
theorem dX7_writeLeftPad_42 : decode cX7_writeLeftPad 42 = .ok (.getfield 160, 3) := by decide +kernel
theorem dX7_writeLeftPad_45 : decode cX7_writeLeftPad 45 = .ok (.bipush 52, 2) := by decide +kernel
theorem dX7_writeLeftPad_47 : decode cX7_writeLeftPad 47 = .ok (.iconst (-1), 1) := by decide +kernel
theorem dX7_writeLeftPad_48 : decode cX7_writeLeftPad 48 = .ok (.invokevirtual 221, 3) := by decide +kernel
theorem dX7_writeLeftPad_51 : decode cX7_writeLeftPad 51 = .ok (.aload_n 0, 1) := by decide +kernel
theorem dX7_writeLeftPad_52 : decode cX7_writeLeftPad 52 = .ok (.aload_n 1, 1) := by decide +kernel
theorem dX7_writeLeftPad_53 : decode cX7_writeLeftPad 53 = .ok (.getfield 160, 3) := by decide +kernel
theorem dX7_writeLeftPad_56 : decode cX7_writeLeftPad 56 = .ok (.iload_n 3, 1) := by decide +kernel
theorem dX7_writeLeftPad_57 : decode cX7_writeLeftPad 57 = .ok (.iconst (-1), 1) := by decide +kernel
theorem dX7_writeLeftPad_58 : decode cX7_writeLeftPad 58 = .ok (.invokevirtual 221, 3) := by decide +kernel
theorem dX7_writeLeftPad_61 : decode cX7_writeLeftPad 61 = .ok (.iinc 3 1, 3) := by decide +kernel
theorem dX7_writeLeftPad_64 : decode cX7_writeLeftPad 64 = .ok (.goto (-54), 3) := by decide +kernel
theorem dX7_writeLeftPad_67 : decode cX7_writeLeftPad 67 = .ok (.aload_n 0, 1) := by decide +kernel
theorem dX7_writeLeftPad_68 : decode cX7_writeLeftPad 68 = .ok (.aload_n 1, 1) := by decide +kernel
theorem dX7_writeLeftPad_69 : decode cX7_writeLeftPad 69 = .ok (.getfield 160, 3) := by decide +kernel
theorem dX7_writeLeftPad_72 : decode cX7_writeLeftPad 72 = .ok (.bipush 58, 2) := by decide +kernel
theorem dX7_writeLeftPad_74 : decode cX7_writeLeftPad 74 = .ok (.iconst (-1), 1) := by decide +kernel
theorem dX7_writeLeftPad_75 : decode cX7_writeLeftPad 75 = .ok (.invokevirtual 221, 3) := by decide +kernel
theorem dX7_writeLeftPad_78 : decode cX7_writeLeftPad 78 = .ok (.return_, 1) := by decide +kernel
theorem dX7_writeHandlers_0 : decode cX7_writeHandlers 0 = .ok (.aload_n 1, 1) := by decide +kernel
theorem dX7_writeHandlers_1 : decode cX7_writeHandlers 1 = .ok (.getfield 160, 3) := by decide +kernel
theorem dX7_writeHandlers_4 : decode cX7_writeHandlers 4 = .ok (.getfield 245, 3) := by decide +kernel
theorem dX7_writeHandlers_7 : decode cX7_writeHandlers 7 = .ok (.astore_n 2, 1) := by decide +kernel
theorem dX7_writeHandlers_8 : decode cX7_writeHandlers 8 = .ok (.iconst 0, 1) := by decide +kernel
theorem dX7_writeHandlers_9 : decode cX7_writeHandlers 9 = .ok (.istore_n 3, 1) := by decide +kernel
theorem dX7_writeHandlers_10 : decode cX7_writeHandlers 10 = .ok (.iload_n 3, 1) := by decide +kernel
theorem dX7_writeHandlers_11 : decode cX7_writeHandlers 11 = .ok (.aload_n 1, 1) := by decide +kernel
theorem dX7_writeHandlers_12 : decode cX7_writeHandlers 12 = .ok (.getfield 125, 3) := by decide +kernel
theorem dX7_writeHandlers_15 : decode cX7_writeHandlers 15 = .ok (.if_icmp .ge 84, 3) := by decide +kernel
theorem dX7_writeHandlers_18 : decode cX7_writeHandlers 18 = .ok (.aload_n 1, 1) := by decide +kernel
theorem dX7_writeHandlers_19 : decode cX7_writeHandlers 19 = .ok (.getfield 132, 3) := by decide +kernel
theorem dX7_writeHandlers_22 : decode cX7_writeHandlers 22 = .ok (.iload_n 3, 1) := by decide +kernel
theorem dX7_writeHandlers_23 : decode cX7_writeHandlers 23 = .ok (.iconst 2, 1) := by decide +kernel
theorem dX7_writeHandlers_24 : decode cX7_writeHandlers 24 = .ok (.invokestatic 135, 3) := by decide +kernel
theorem dX7_writeHandlers_27 : decode cX7_writeHandlers 27 = .ok (.istore 4, 2) := by decide +kernel
theorem dX7_writeHandlers_29 : decode cX7_writeHandlers 29 = .ok (.aload_n 2, 1) := by decide +kernel
theorem dX7_writeHandlers_30 : decode cX7_writeHandlers 30 = .ok (.iload_n 3, 1) := by decide +kernel
theorem dX7_writeHandlers_31 : decode cX7_writeHandlers 31 = .ok (.aload_n 0, 1) := by decide +kernel
theorem dX7_writeHandlers_32 : decode cX7_writeHandlers 32 = .ok (.aload_n 1, 1) := by decide +kernel
theorem dX7_writeHandlers_33 : decode cX7_writeHandlers 33 = .ok (.getfield 132, 3) := by decide +kernel
theorem dX7_writeHandlers_36 : decode cX7_writeHandlers 36 = .ok (.iload_n 3, 1) := by decide +kernel
theorem dX7_writeHandlers_37 : decode cX7_writeHandlers 37 = .ok (.iconst 0, 1) := by decide +kernel
theorem dX7_writeHandlers_38 : decode cX7_writeHandlers 38 = .ok (.invokestatic 135, 3) := by decide +kernel
theorem dX7_writeHandlers_41 : decode cX7_writeHandlers 41 = .ok (.invokevirtual 142, 3) := by decide +kernel
theorem dX7_writeHandlers_44 : decode cX7_writeHandlers 44 = .ok (.aload_n 0, 1) := by decide +kernel
theorem dX7_writeHandlers_45 : decode cX7_writeHandlers 45 = .ok (.aload_n 1, 1) := by decide +kernel
theorem dX7_writeHandlers_46 : decode cX7_writeHandlers 46 = .ok (.getfield 132, 3) := by decide +kernel
theorem dX7_writeHandlers_49 : decode cX7_writeHandlers 49 = .ok (.iload_n 3, 1) := by decide +kernel
theorem dX7_writeHandlers_50 : decode cX7_writeHandlers 50 = .ok (.iconst 1, 1) := by decide +kernel
theorem dX7_writeHandlers_51 : decode cX7_writeHandlers 51 = .ok (.invokestatic 135, 3) := by decide +kernel
theorem dX7_writeHandlers_54 : decode cX7_writeHandlers 54 = .ok (.invokevirtual 142, 3) := by decide +kernel
theorem dX7_writeHandlers_57 : decode cX7_writeHandlers 57 = .ok (.aload_n 0, 1) := by decide +kernel
theorem dX7_writeHandlers_58 : decode cX7_writeHandlers 58 = .ok (.aload_n 1, 1) := by decide +kernel
theorem dX7_writeHandlers_59 : decode cX7_writeHandlers 59 = .ok (.iload_n 3, 1) := by decide +kernel
theorem dX7_writeHandlers_60 : decode cX7_writeHandlers 60 = .ok (.invokevirtual 128, 3) := by decide +kernel
theorem dX7_writeHandlers_63 : decode cX7_writeHandlers 63 = .ok (.ifCond .le 12, 3) := by decide +kernel
theorem dX7_writeHandlers_66 : decode cX7_writeHandlers 66 = .ok (.aload_n 0, 1) := by decide +kernel
theorem dX7_writeHandlers_67 : decode cX7_writeHandlers 67 = .ok (.getfield 33, 3) := by decide +kernel
theorem dX7_writeHandlers_70 : decode cX7_writeHandlers 70 = .ok (.iload_n 3, 1) := by decide +kernel
theorem dX7_writeHandlers_71 : decode cX7_writeHandlers 71 = .ok (.iaload, 1) := by decide +kernel
theorem dX7_writeHandlers_72 : decode cX7_writeHandlers 72 = .ok (.goto 9, 3) := by decide +kernel
theorem dX7_writeHandlers_75 : decode cX7_writeHandlers 75 = .ok (.aload_n 0, 1) := by decide +kernel
theorem dX7_writeHandlers_76 : decode cX7_writeHandlers 76 = .ok (.iload 4, 2) := by decide +kernel
theorem dX7_writeHandlers_78 : decode cX7_writeHandlers 78 = .ok (.invokevirtual 142, 3) := by decide +kernel
theorem dX7_writeHandlers_81 : decode cX7_writeHandlers 81 = .ok (.aload_n 1, 1) := by decide +kernel
theorem dX7_writeHandlers_82 : decode cX7_writeHandlers 82 = .ok (.getfield 132, 3) := by decide +kernel
theorem dX7_writeHandlers_85 : decode cX7_writeHandlers 85 = .ok (.iload_n 3, 1) := by decide +kernel
theorem dX7_writeHandlers_86 : decode cX7_writeHandlers 86 = .ok (.iconst 3, 1) := by decide +kernel
theorem dX7_writeHandlers_87 : decode cX7_writeHandlers 87 = .ok (.invokestatic 135, 3) := by decide +kernel
theorem dX7_writeHandlers_90 : decode cX7_writeHandlers 90 = .ok (.invokestatic 246, 3) := by decide +kernel
theorem dX7_writeHandlers_93 : decode cX7_writeHandlers 93 = .ok (.iinc 3 1, 3) := by decide +kernel
theorem dX7_writeHandlers_96 : decode cX7_writeHandlers 96 = .ok (.goto (-86), 3) := by decide +kernel
theorem dX7_writeHandlers_99 : decode cX7_writeHandlers 99 = .ok (.aload_n 1, 1) := by decide +kernel
theorem dX7_writeHandlers_100 : decode cX7_writeHandlers 100 = .ok (.getfield 160, 3) := by decide +kernel
theorem dX7_writeHandlers_103 : decode cX7_writeHandlers 103 = .ok (.aload_n 1, 1) := by decide +kernel
theorem dX7_writeHandlers_104 : decode cX7_writeHandlers 104 = .ok (.getfield 125, 3) := by decide +kernel
theorem dX7_writeHandlers_107 : decode cX7_writeHandlers 107 = .ok (.putfield 250, 3) := by decide +kernel
theorem dX7_writeHandlers_110 : decode cX7_writeHandlers 110 = .ok (.aload_n 0, 1) := by decide +kernel
theorem dX7_writeHandlers_111 : decode cX7_writeHandlers 111 = .ok (.getfield 50, 3) := by decide +kernel
theorem dX7_writeHandlers_114 : decode cX7_writeHandlers 114 = .ok (.ifCond .le 43, 3) := by decide +kernel
theorem dX7_writeHandlers_117 : decode cX7_writeHandlers 117 = .ok (.aload_n 2, 1) := by decide +kernel
theorem dX7_writeHandlers_118 : decode cX7_writeHandlers 118 = .ok (.aload_n 1, 1) := by decide +kernel
theorem dX7_writeHandlers_119 : decode cX7_writeHandlers 119 = .ok (.getfield 125, 3) := by decide +kernel
theorem dX7_writeHandlers_122 : decode cX7_writeHandlers 122 = .ok (.aload_n 0, 1) := by decide +kernel
theorem dX7_writeHandlers_123 : decode cX7_writeHandlers 123 = .ok (.getfield 24, 3) := by decide +kernel
theorem dX7_writeHandlers_126 : decode cX7_writeHandlers 126 = .ok (.iconst 0, 1) := by decide +kernel
theorem dX7_writeHandlers_127 : decode cX7_writeHandlers 127 = .ok (.iaload, 1) := by decide +kernel
theorem dX7_writeHandlers_128 : decode cX7_writeHandlers 128 = .ok (.aload_n 0, 1) := by decide +kernel
theorem dX7_writeHandlers_129 : decode cX7_writeHandlers 129 = .ok (.aload_n 1, 1) := by decide +kernel
theorem dX7_writeHandlers_130 : decode cX7_writeHandlers 130 = .ok (.getfield 116, 3) := by decide +kernel
theorem dX7_writeHandlers_133 : decode cX7_writeHandlers 133 = .ok (.invokevirtual 142, 3) := by decide +kernel
theorem dX7_writeHandlers_136 : decode cX7_writeHandlers 136 = .ok (.aload_n 0, 1) := by decide +kernel
theorem dX7_writeHandlers_137 : decode cX7_writeHandlers 137 = .ok (.getfield 56, 3) := by decide +kernel
theorem dX7_writeHandlers_140 : decode cX7_writeHandlers 140 = .ok (.iconst 0, 1) := by decide +kernel
theorem dX7_writeHandlers_141 : decode cX7_writeHandlers 141 = .ok (.invokestatic 246, 3) := by decide +kernel
theorem dX7_writeHandlers_144 : decode cX7_writeHandlers 144 = .ok (.aload_n 1, 1) := by decide +kernel
theorem dX7_writeHandlers_145 : decode cX7_writeHandlers 145 = .ok (.getfield 160, 3) := by decide +kernel
theorem dX7_writeHandlers_148 : decode cX7_writeHandlers 148 = .ok (.dup, 1) := by decide +kernel
theorem dX7_writeHandlers_149 : decode cX7_writeHandlers 149 = .ok (.getfield 250, 3) := by decide +kernel
theorem dX7_writeHandlers_152 : decode cX7_writeHandlers 152 = .ok (.iconst 1, 1) := by decide +kernel
theorem dX7_writeHandlers_153 : decode cX7_writeHandlers 153 = .ok (.iadd, 1) := by decide +kernel
theorem dX7_writeHandlers_154 : decode cX7_writeHandlers 154 = .ok (.putfield 250, 3) := by decide +kernel
theorem dX7_writeHandlers_157 : decode cX7_writeHandlers 157 = .ok (.return_, 1) := by decide +kernel
theorem dX7_writeHandler_0 : decode cX7_writeHandler 0 = .ok (.iload_n 1, 1) := by decide +kernel
theorem dX7_writeHandler_1 : decode cX7_writeHandler 1 = .ok (.iconst 4, 1) := by decide +kernel
theorem dX7_writeHandler_2 : decode cX7_writeHandler 2 = .ok (.imul, 1) := by decide +kernel
theorem dX7_writeHandler_3 : decode cX7_writeHandler 3 = .ok (.istore 6, 2) := by decide +kernel
theorem dX7_writeHandler_5 : decode cX7_writeHandler 5 = .ok (.iload 6, 2) := by decide +kernel
theorem dX7_writeHandler_7 : decode cX7_writeHandler 7 = .ok (.ifCond .lt 12, 3) := by decide +kernel
theorem dX7_writeHandler_10 : decode cX7_writeHandler 10 = .ok (.iload 6, 2) := by decide +kernel
theorem dX7_writeHandler_12 : decode cX7_writeHandler 12 = .ok (.iconst 3, 1) := by decide +kernel
theorem dX7_writeHandler_13 : decode cX7_writeHandler 13 = .ok (.iadd, 1) := by decide +kernel
theorem dX7_writeHandler_14 : decode cX7_writeHandler 14 = .ok (.aload_n 0, 1) := by decide +kernel
theorem dX7_writeHandler_15 : decode cX7_writeHandler 15 = .ok (.arraylength, 1) := by decide +kernel
theorem dX7_writeHandler_16 : decode cX7_writeHandler 16 = .ok (.if_icmp .lt 4, 3) := by decide +kernel
theorem dX7_writeHandler_19 : decode cX7_writeHandler 19 = .ok (.return_, 1) := by decide +kernel
theorem dX7_writeHandler_20 : decode cX7_writeHandler 20 = .ok (.aload_n 0, 1) := by decide +kernel
theorem dX7_writeHandler_21 : decode cX7_writeHandler 21 = .ok (.iload 6, 2) := by decide +kernel
theorem dX7_writeHandler_23 : decode cX7_writeHandler 23 = .ok (.iload_n 2, 1) := by decide +kernel
theorem dX7_writeHandler_24 : decode cX7_writeHandler 24 = .ok (.iastore, 1) := by decide +kernel
theorem dX7_writeHandler_25 : decode cX7_writeHandler 25 = .ok (.aload_n 0, 1) := by decide +kernel
theorem dX7_writeHandler_26 : decode cX7_writeHandler 26 = .ok (.iload 6, 2) := by decide +kernel
theorem dX7_writeHandler_28 : decode cX7_writeHandler 28 = .ok (.iconst 1, 1) := by decide +kernel
theorem dX7_writeHandler_29 : decode cX7_writeHandler 29 = .ok (.iadd, 1) := by decide +kernel
theorem dX7_writeHandler_30 : decode cX7_writeHandler 30 = .ok (.iload_n 3, 1) := by decide +kernel
theorem dX7_writeHandler_31 : decode cX7_writeHandler 31 = .ok (.iastore, 1) := by decide +kernel
theorem dX7_writeHandler_32 : decode cX7_writeHandler 32 = .ok (.aload_n 0, 1) := by decide +kernel
theorem dX7_writeHandler_33 : decode cX7_writeHandler 33 = .ok (.iload 6, 2) := by decide +kernel
theorem dX7_writeHandler_35 : decode cX7_writeHandler 35 = .ok (.iconst 2, 1) := by decide +kernel
theorem dX7_writeHandler_36 : decode cX7_writeHandler 36 = .ok (.iadd, 1) := by decide +kernel
theorem dX7_writeHandler_37 : decode cX7_writeHandler 37 = .ok (.iload 4, 2) := by decide +kernel
theorem dX7_writeHandler_39 : decode cX7_writeHandler 39 = .ok (.iastore, 1) := by decide +kernel
theorem dX7_writeHandler_40 : decode cX7_writeHandler 40 = .ok (.aload_n 0, 1) := by decide +kernel
theorem dX7_writeHandler_41 : decode cX7_writeHandler 41 = .ok (.iload 6, 2) := by decide +kernel
theorem dX7_writeHandler_43 : decode cX7_writeHandler 43 = .ok (.iconst 3, 1) := by decide +kernel
theorem dX7_writeHandler_44 : decode cX7_writeHandler 44 = .ok (.iadd, 1) := by decide +kernel
theorem dX7_writeHandler_45 : decode cX7_writeHandler 45 = .ok (.iload 5, 2) := by decide +kernel
theorem dX7_writeHandler_47 : decode cX7_writeHandler 47 = .ok (.iastore, 1) := by decide +kernel
theorem dX7_writeHandler_48 : decode cX7_writeHandler 48 = .ok (.return_, 1) := by decide +kernel
theorem dX7_writeSide_0 : decode cX7_writeSide 0 = .ok (.aload_n 0, 1) := by decide +kernel
theorem dX7_writeSide_1 : decode cX7_writeSide 1 = .ok (.aload_n 1, 1) := by decide +kernel
theorem dX7_writeSide_2 : decode cX7_writeSide 2 = .ok (.bipush 49, 2) := by decide +kernel
theorem dX7_writeSide_4 : decode cX7_writeSide 4 = .ok (.iload 4, 2) := by decide +kernel
theorem dX7_writeSide_6 : decode cX7_writeSide 6 = .ok (.invokevirtual 221, 3) := by decide +kernel
theorem dX7_writeSide_9 : decode cX7_writeSide 9 = .ok (.aload_n 0, 1) := by decide +kernel
theorem dX7_writeSide_10 : decode cX7_writeSide 10 = .ok (.aload_n 1, 1) := by decide +kernel
theorem dX7_writeSide_11 : decode cX7_writeSide 11 = .ok (.iload_n 2, 1) := by decide +kernel
theorem dX7_writeSide_12 : decode cX7_writeSide 12 = .ok (.iload 4, 2) := by decide +kernel
theorem dX7_writeSide_14 : decode cX7_writeSide 14 = .ok (.invokevirtual 221, 3) := by decide +kernel
theorem dX7_writeSide_17 : decode cX7_writeSide 17 = .ok (.aload_n 0, 1) := by decide +kernel
theorem dX7_writeSide_18 : decode cX7_writeSide 18 = .ok (.aload_n 1, 1) := by decide +kernel
theorem dX7_writeSide_19 : decode cX7_writeSide 19 = .ok (.iload_n 3, 1) := by decide +kernel
theorem dX7_writeSide_20 : decode cX7_writeSide 20 = .ok (.iload 4, 2) := by decide +kernel
theorem dX7_writeSide_22 : decode cX7_writeSide 22 = .ok (.invokevirtual 221, 3) := by decide +kernel
theorem dX7_writeSide_25 : decode cX7_writeSide 25 = .ok (.return_, 1) := by decide +kernel
theorem dX7_writeJump_0 : decode cX7_writeJump 0 = .ok (.iload_n 3, 1) := by decide +kernel
theorem dX7_writeJump_1 : decode cX7_writeJump 1 = .ok (.aload_n 0, 1) := by decide +kernel
theorem dX7_writeJump_2 : decode cX7_writeJump 2 = .ok (.getfield 62, 3) := by decide +kernel
theorem dX7_writeJump_5 : decode cX7_writeJump 5 = .ok (.isub, 1) := by decide +kernel
theorem dX7_writeJump_6 : decode cX7_writeJump 6 = .ok (.istore 5, 2) := by decide +kernel
theorem dX7_writeJump_8 : decode cX7_writeJump 8 = .ok (.aload_n 0, 1) := by decide +kernel
theorem dX7_writeJump_9 : decode cX7_writeJump 9 = .ok (.aload_n 1, 1) := by decide +kernel
theorem dX7_writeJump_10 : decode cX7_writeJump 10 = .ok (.iload_n 2, 1) := by decide +kernel
theorem dX7_writeJump_11 : decode cX7_writeJump 11 = .ok (.iload 4, 2) := by decide +kernel
theorem dX7_writeJump_13 : decode cX7_writeJump 13 = .ok (.invokevirtual 221, 3) := by decide +kernel
theorem dX7_writeJump_16 : decode cX7_writeJump 16 = .ok (.iload_n 2, 1) := by decide +kernel
theorem dX7_writeJump_17 : decode cX7_writeJump 17 = .ok (.invokestatic 225, 3) := by decide +kernel
theorem dX7_writeJump_20 : decode cX7_writeJump 20 = .ok (.ifCond .eq 15, 3) := by decide +kernel
theorem dX7_writeJump_23 : decode cX7_writeJump 23 = .ok (.aload_n 0, 1) := by decide +kernel
theorem dX7_writeJump_24 : decode cX7_writeJump 24 = .ok (.aload_n 1, 1) := by decide +kernel
theorem dX7_writeJump_25 : decode cX7_writeJump 25 = .ok (.iload 5, 2) := by decide +kernel
theorem dX7_writeJump_27 : decode cX7_writeJump 27 = .ok (.iload 4, 2) := by decide +kernel
theorem dX7_writeJump_29 : decode cX7_writeJump 29 = .ok (.invokevirtual 239, 3) := by decide +kernel
theorem dX7_writeJump_32 : decode cX7_writeJump 32 = .ok (.goto 12, 3) := by decide +kernel
theorem dX7_writeJump_35 : decode cX7_writeJump 35 = .ok (.aload_n 0, 1) := by decide +kernel
theorem dX7_writeJump_36 : decode cX7_writeJump 36 = .ok (.aload_n 1, 1) := by decide +kernel
theorem dX7_writeJump_37 : decode cX7_writeJump 37 = .ok (.iload 5, 2) := by decide +kernel
theorem dX7_writeJump_39 : decode cX7_writeJump 39 = .ok (.iload 4, 2) := by decide +kernel
theorem dX7_writeJump_41 : decode cX7_writeJump 41 = .ok (.invokevirtual 221, 3) := by decide +kernel
theorem dX7_writeJump_44 : decode cX7_writeJump 44 = .ok (.return_, 1) := by decide +kernel
theorem dX7_writePair_0 : decode cX7_writePair 0 = .ok (.aload_n 0, 1) := by decide +kernel
theorem dX7_writePair_1 : decode cX7_writePair 1 = .ok (.aload_n 1, 1) := by decide +kernel
theorem dX7_writePair_2 : decode cX7_writePair 2 = .ok (.iload_n 2, 1) := by decide +kernel
theorem dX7_writePair_3 : decode cX7_writePair 3 = .ok (.bipush 8, 2) := by decide +kernel
theorem dX7_writePair_5 : decode cX7_writePair 5 = .ok (.ishr, 1) := by decide +kernel
theorem dX7_writePair_6 : decode cX7_writePair 6 = .ok (.iload_n 3, 1) := by decide +kernel
theorem dX7_writePair_7 : decode cX7_writePair 7 = .ok (.invokevirtual 221, 3) := by decide +kernel
theorem dX7_writePair_10 : decode cX7_writePair 10 = .ok (.aload_n 0, 1) := by decide +kernel
theorem dX7_writePair_11 : decode cX7_writePair 11 = .ok (.aload_n 1, 1) := by decide +kernel
theorem dX7_writePair_12 : decode cX7_writePair 12 = .ok (.iload_n 2, 1) := by decide +kernel
theorem dX7_writePair_13 : decode cX7_writePair 13 = .ok (.iload_n 3, 1) := by decide +kernel
theorem dX7_writePair_14 : decode cX7_writePair 14 = .ok (.invokevirtual 221, 3) := by decide +kernel
theorem dX7_writePair_17 : decode cX7_writePair 17 = .ok (.return_, 1) := by decide +kernel
theorem dX7_writeByte_0 : decode cX7_writeByte 0 = .ok (.aload_n 0, 1) := by decide +kernel
theorem dX7_writeByte_1 : decode cX7_writeByte 1 = .ok (.getfield 62, 3) := by decide +kernel
theorem dX7_writeByte_4 : decode cX7_writeByte 4 = .ok (.ifCond .lt 47, 3) := by decide +kernel
theorem dX7_writeByte_7 : decode cX7_writeByte 7 = .ok (.aload_n 0, 1) := by decide +kernel
theorem dX7_writeByte_8 : decode cX7_writeByte 8 = .ok (.getfield 62, 3) := by decide +kernel
theorem dX7_writeByte_11 : decode cX7_writeByte 11 = .ok (.sipush 1000, 3) := by decide +kernel
theorem dX7_writeByte_14 : decode cX7_writeByte 14 = .ok (.if_icmp .ge 37, 3) := by decide +kernel
theorem dX7_writeByte_17 : decode cX7_writeByte 17 = .ok (.aload_n 1, 1) := by decide +kernel
theorem dX7_writeByte_18 : decode cX7_writeByte 18 = .ok (.getfield 251, 3) := by decide +kernel
theorem dX7_writeByte_21 : decode cX7_writeByte 21 = .ok (.aload_n 0, 1) := by decide +kernel
theorem dX7_writeByte_22 : decode cX7_writeByte 22 = .ok (.getfield 62, 3) := by decide +kernel
theorem dX7_writeByte_25 : decode cX7_writeByte 25 = .ok (.iload_n 2, 1) := by decide +kernel
theorem dX7_writeByte_26 : decode cX7_writeByte 26 = .ok (.sipush 255, 3) := by decide +kernel
theorem dX7_writeByte_29 : decode cX7_writeByte 29 = .ok (.iand, 1) := by decide +kernel
theorem dX7_writeByte_30 : decode cX7_writeByte 30 = .ok (.iastore, 1) := by decide +kernel
theorem dX7_writeByte_31 : decode cX7_writeByte 31 = .ok (.aload_n 1, 1) := by decide +kernel
theorem dX7_writeByte_32 : decode cX7_writeByte 32 = .ok (.getfield 252, 3) := by decide +kernel
theorem dX7_writeByte_35 : decode cX7_writeByte 35 = .ok (.aload_n 0, 1) := by decide +kernel
theorem dX7_writeByte_36 : decode cX7_writeByte 36 = .ok (.getfield 62, 3) := by decide +kernel
theorem dX7_writeByte_39 : decode cX7_writeByte 39 = .ok (.iload_n 3, 1) := by decide +kernel
theorem dX7_writeByte_40 : decode cX7_writeByte 40 = .ok (.iastore, 1) := by decide +kernel
theorem dX7_writeByte_41 : decode cX7_writeByte 41 = .ok (.aload_n 0, 1) := by decide +kernel
theorem dX7_writeByte_42 : decode cX7_writeByte 42 = .ok (.dup, 1) := by decide +kernel
theorem dX7_writeByte_43 : decode cX7_writeByte 43 = .ok (.getfield 62, 3) := by decide +kernel
theorem dX7_writeByte_46 : decode cX7_writeByte 46 = .ok (.iconst 1, 1) := by decide +kernel
theorem dX7_writeByte_47 : decode cX7_writeByte 47 = .ok (.iadd, 1) := by decide +kernel
theorem dX7_writeByte_48 : decode cX7_writeByte 48 = .ok (.putfield 62, 3) := by decide +kernel
theorem dX7_writeByte_51 : decode cX7_writeByte 51 = .ok (.return_, 1) := by decide +kernel
theorem dX8_init_0 : decode cX8_init 0 = .ok (.aload_n 0, 1) := by decide +kernel
theorem dX8_init_1 : decode cX8_init 1 = .ok (.invokespecial 3, 3) := by decide +kernel
theorem dX8_init_4 : decode cX8_init 4 = .ok (.aload_n 0, 1) := by decide +kernel
theorem dX8_init_5 : decode cX8_init 5 = .ok (.sipush 1000, 3) := by decide +kernel
theorem dX8_init_8 : decode cX8_init 8 = .ok (.newarray .int, 2) := by decide +kernel
theorem dX8_init_10 : decode cX8_init 10 = .ok (.putfield 9, 3) := by decide +kernel
theorem dX8_init_13 : decode cX8_init 13 = .ok (.aload_n 0, 1) := by decide +kernel
theorem dX8_init_14 : decode cX8_init 14 = .ok (.sipush 1000, 3) := by decide +kernel
theorem dX8_init_17 : decode cX8_init 17 = .ok (.newarray .int, 2) := by decide +kernel
theorem dX8_init_19 : decode cX8_init 19 = .ok (.putfield 15, 3) := by decide +kernel
theorem dX8_init_22 : decode cX8_init 22 = .ok (.aload_n 0, 1) := by decide +kernel
theorem dX8_init_23 : decode cX8_init 23 = .ok (.sipush 400, 3) := by decide +kernel
theorem dX8_init_26 : decode cX8_init 26 = .ok (.newarray .int, 2) := by decide +kernel
theorem dX8_init_28 : decode cX8_init 28 = .ok (.putfield 18, 3) := by decide +kernel
theorem dX8_init_31 : decode cX8_init 31 = .ok (.aload_n 0, 1) := by decide +kernel
theorem dX8_init_32 : decode cX8_init 32 = .ok (.sipush 400, 3) := by decide +kernel
theorem dX8_init_35 : decode cX8_init 35 = .ok (.newarray .boolean, 2) := by decide +kernel
theorem dX8_init_37 : decode cX8_init 37 = .ok (.putfield 21, 3) := by decide +kernel
theorem dX8_init_40 : decode cX8_init 40 = .ok (.aload_n 0, 1) := by decide +kernel
theorem dX8_init_41 : decode cX8_init 41 = .ok (.bipush 36, 2) := by decide +kernel
theorem dX8_init_43 : decode cX8_init 43 = .ok (.newarray .int, 2) := by decide +kernel
theorem dX8_init_45 : decode cX8_init 45 = .ok (.putfield 25, 3) := by decide +kernel
theorem dX8_init_48 : decode cX8_init 48 = .ok (.aload_n 0, 1) := by decide +kernel
theorem dX8_init_49 : decode cX8_init 49 = .ok (.iconst 0, 1) := by decide +kernel
theorem dX8_init_50 : decode cX8_init 50 = .ok (.putfield 28, 3) := by decide +kernel
theorem dX8_init_53 : decode cX8_init 53 = .ok (.aload_n 0, 1) := by decide +kernel
theorem dX8_init_54 : decode cX8_init 54 = .ok (.iconst 0, 1) := by decide +kernel
theorem dX8_init_55 : decode cX8_init 55 = .ok (.putfield 32, 3) := by decide +kernel
theorem dX8_init_58 : decode cX8_init 58 = .ok (.aload_n 0, 1) := by decide +kernel
theorem dX8_init_59 : decode cX8_init 59 = .ok (.iconst 0, 1) := by decide +kernel
theorem dX8_init_60 : decode cX8_init 60 = .ok (.putfield 36, 3) := by decide +kernel
theorem dX8_init_63 : decode cX8_init 63 = .ok (.aload_n 0, 1) := by decide +kernel
theorem dX8_init_64 : decode cX8_init 64 = .ok (.iconst 0, 1) := by decide +kernel
theorem dX8_init_65 : decode cX8_init 65 = .ok (.putfield 39, 3) := by decide +kernel
theorem dX8_init_68 : decode cX8_init 68 = .ok (.aload_n 0, 1) := by decide +kernel
theorem dX8_init_69 : decode cX8_init 69 = .ok (.iconst 0, 1) := by decide +kernel
theorem dX8_init_70 : decode cX8_init 70 = .ok (.putfield 42, 3) := by decide +kernel
theorem dX8_init_73 : decode cX8_init 73 = .ok (.aload_n 0, 1) := by decide +kernel
theorem dX8_init_74 : decode cX8_init 74 = .ok (.iconst 0, 1) := by decide +kernel
theorem dX8_init_75 : decode cX8_init 75 = .ok (.putfield 45, 3) := by decide +kernel
theorem dX8_init_78 : decode cX8_init 78 = .ok (.return_, 1) := by decide +kernel
theorem dX8_lengthIfThere_0 : decode cX8_lengthIfThere 0 = .ok (.aload_n 0, 1) := by decide +kernel
theorem dX8_lengthIfThere_1 : decode cX8_lengthIfThere 1 = .ok (.getfield 28, 3) := by decide +kernel
theorem dX8_lengthIfThere_4 : decode cX8_lengthIfThere 4 = .ok (.ifCond .eq 10, 3) := by decide +kernel
theorem dX8_lengthIfThere_7 : decode cX8_lengthIfThere 7 = .ok (.aload_n 0, 1) := by decide +kernel
theorem dX8_lengthIfThere_8 : decode cX8_lengthIfThere 8 = .ok (.getfield 32, 3) := by decide +kernel
theorem dX8_lengthIfThere_11 : decode cX8_lengthIfThere 11 = .ok (.goto 4, 3) := by decide +kernel
theorem dX8_lengthIfThere_14 : decode cX8_lengthIfThere 14 = .ok (.iconst 0, 1) := by decide +kernel
theorem dX8_lengthIfThere_15 : decode cX8_lengthIfThere 15 = .ok (.ireturn, 1) := by decide +kernel
theorem dX8_handlersIfThere_0 : decode cX8_handlersIfThere 0 = .ok (.aload_n 0, 1) := by decide +kernel
theorem dX8_handlersIfThere_1 : decode cX8_handlersIfThere 1 = .ok (.getfield 28, 3) := by decide +kernel
theorem dX8_handlersIfThere_4 : decode cX8_handlersIfThere 4 = .ok (.ifCond .eq 10, 3) := by decide +kernel
theorem dX8_handlersIfThere_7 : decode cX8_handlersIfThere 7 = .ok (.aload_n 0, 1) := by decide +kernel
theorem dX8_handlersIfThere_8 : decode cX8_handlersIfThere 8 = .ok (.getfield 36, 3) := by decide +kernel
theorem dX8_handlersIfThere_11 : decode cX8_handlersIfThere 11 = .ok (.goto 4, 3) := by decide +kernel
theorem dX8_handlersIfThere_14 : decode cX8_handlersIfThere 14 = .ok (.iconst 0, 1) := by decide +kernel
theorem dX8_handlersIfThere_15 : decode cX8_handlersIfThere 15 = .ok (.ireturn, 1) := by decide +kernel
theorem dX8_tell_0 : decode cX8_tell 0 = .ok (.iload_n 1, 1) := by decide +kernel
theorem dX8_tell_1 : decode cX8_tell 1 = .ok (.tableswitch 95 6 9 #[31, 47, 63, 79], 31) := by decide +kernel
theorem dX8_tell_32 : decode cX8_tell 32 = .ok (.aload_n 0, 1) := by decide +kernel
theorem dX8_tell_33 : decode cX8_tell 33 = .ok (.getfield 28, 3) := by decide +kernel
theorem dX8_tell_36 : decode cX8_tell 36 = .ok (.ifCond .eq 10, 3) := by decide +kernel
theorem dX8_tell_39 : decode cX8_tell 39 = .ok (.aload_n 0, 1) := by decide +kernel
theorem dX8_tell_40 : decode cX8_tell 40 = .ok (.getfield 32, 3) := by decide +kernel
theorem dX8_tell_43 : decode cX8_tell 43 = .ok (.goto 4, 3) := by decide +kernel
theorem dX8_tell_46 : decode cX8_tell 46 = .ok (.iconst (-1), 1) := by decide +kernel
theorem dX8_tell_47 : decode cX8_tell 47 = .ok (.ireturn, 1) := by decide +kernel
theorem dX8_tell_48 : decode cX8_tell 48 = .ok (.aload_n 0, 1) := by decide +kernel
theorem dX8_tell_49 : decode cX8_tell 49 = .ok (.getfield 28, 3) := by decide +kernel
theorem dX8_tell_52 : decode cX8_tell 52 = .ok (.ifCond .eq 10, 3) := by decide +kernel
theorem dX8_tell_55 : decode cX8_tell 55 = .ok (.aload_n 0, 1) := by decide +kernel
theorem dX8_tell_56 : decode cX8_tell 56 = .ok (.getfield 36, 3) := by decide +kernel
theorem dX8_tell_59 : decode cX8_tell 59 = .ok (.goto 4, 3) := by decide +kernel
theorem dX8_tell_62 : decode cX8_tell 62 = .ok (.iconst (-1), 1) := by decide +kernel
theorem dX8_tell_63 : decode cX8_tell 63 = .ok (.ireturn, 1) := by decide +kernel
theorem dX8_tell_64 : decode cX8_tell 64 = .ok (.aload_n 0, 1) := by decide +kernel
theorem dX8_tell_65 : decode cX8_tell 65 = .ok (.getfield 28, 3) := by decide +kernel
theorem dX8_tell_68 : decode cX8_tell 68 = .ok (.ifCond .eq 10, 3) := by decide +kernel
theorem dX8_tell_71 : decode cX8_tell 71 = .ok (.aload_n 0, 1) := by decide +kernel
theorem dX8_tell_72 : decode cX8_tell 72 = .ok (.getfield 39, 3) := by decide +kernel
theorem dX8_tell_75 : decode cX8_tell 75 = .ok (.goto 4, 3) := by decide +kernel
theorem dX8_tell_78 : decode cX8_tell 78 = .ok (.iconst (-1), 1) := by decide +kernel
theorem dX8_tell_79 : decode cX8_tell 79 = .ok (.ireturn, 1) := by decide +kernel
theorem dX8_tell_80 : decode cX8_tell 80 = .ok (.aload_n 0, 1) := by decide +kernel
theorem dX8_tell_81 : decode cX8_tell 81 = .ok (.getfield 28, 3) := by decide +kernel
theorem dX8_tell_84 : decode cX8_tell 84 = .ok (.ifCond .eq 10, 3) := by decide +kernel
theorem dX8_tell_87 : decode cX8_tell 87 = .ok (.aload_n 0, 1) := by decide +kernel
theorem dX8_tell_88 : decode cX8_tell 88 = .ok (.getfield 42, 3) := by decide +kernel
theorem dX8_tell_91 : decode cX8_tell 91 = .ok (.goto 4, 3) := by decide +kernel
theorem dX8_tell_94 : decode cX8_tell 94 = .ok (.iconst (-1), 1) := by decide +kernel
theorem dX8_tell_95 : decode cX8_tell 95 = .ok (.ireturn, 1) := by decide +kernel
theorem dX8_tell_96 : decode cX8_tell 96 = .ok (.bipush (-2), 2) := by decide +kernel
theorem dX8_tell_98 : decode cX8_tell 98 = .ok (.ireturn, 1) := by decide +kernel
theorem dX8_homeOf_0 : decode cX8_homeOf 0 = .ok (.iload_n 1, 1) := by decide +kernel
theorem dX8_homeOf_1 : decode cX8_homeOf 1 = .ok (.ifCond .lt 19, 3) := by decide +kernel
theorem dX8_homeOf_4 : decode cX8_homeOf 4 = .ok (.iload_n 1, 1) := by decide +kernel
theorem dX8_homeOf_5 : decode cX8_homeOf 5 = .ok (.sipush 1000, 3) := by decide +kernel
theorem dX8_homeOf_8 : decode cX8_homeOf 8 = .ok (.if_icmp .ge 12, 3) := by decide +kernel
theorem dX8_homeOf_11 : decode cX8_homeOf 11 = .ok (.aload_n 0, 1) := by decide +kernel
theorem dX8_homeOf_12 : decode cX8_homeOf 12 = .ok (.getfield 15, 3) := by decide +kernel
theorem dX8_homeOf_15 : decode cX8_homeOf 15 = .ok (.iload_n 1, 1) := by decide +kernel
theorem dX8_homeOf_16 : decode cX8_homeOf 16 = .ok (.iaload, 1) := by decide +kernel
theorem dX8_homeOf_17 : decode cX8_homeOf 17 = .ok (.goto 4, 3) := by decide +kernel
theorem dX8_homeOf_20 : decode cX8_homeOf 20 = .ok (.iconst (-1), 1) := by decide +kernel
theorem dX8_homeOf_21 : decode cX8_homeOf 21 = .ok (.ireturn, 1) := by decide +kernel
theorem dX8_isBusyAt_0 : decode cX8_isBusyAt 0 = .ok (.iload_n 1, 1) := by decide +kernel
theorem dX8_isBusyAt_1 : decode cX8_isBusyAt 1 = .ok (.ifCond .lt 23, 3) := by decide +kernel
theorem dX8_isBusyAt_4 : decode cX8_isBusyAt 4 = .ok (.iload_n 1, 1) := by decide +kernel
theorem dX8_isBusyAt_5 : decode cX8_isBusyAt 5 = .ok (.sipush 400, 3) := by decide +kernel
theorem dX8_isBusyAt_8 : decode cX8_isBusyAt 8 = .ok (.if_icmp .ge 16, 3) := by decide +kernel
theorem dX8_isBusyAt_11 : decode cX8_isBusyAt 11 = .ok (.aload_n 0, 1) := by decide +kernel
theorem dX8_isBusyAt_12 : decode cX8_isBusyAt 12 = .ok (.getfield 21, 3) := by decide +kernel
theorem dX8_isBusyAt_15 : decode cX8_isBusyAt 15 = .ok (.iload_n 1, 1) := by decide +kernel
theorem dX8_isBusyAt_16 : decode cX8_isBusyAt 16 = .ok (.baload, 1) := by decide +kernel
theorem dX8_isBusyAt_17 : decode cX8_isBusyAt 17 = .ok (.ifCond .eq 7, 3) := by decide +kernel
theorem dX8_isBusyAt_20 : decode cX8_isBusyAt 20 = .ok (.iconst 1, 1) := by decide +kernel
theorem dX8_isBusyAt_21 : decode cX8_isBusyAt 21 = .ok (.goto 4, 3) := by decide +kernel
theorem dX8_isBusyAt_24 : decode cX8_isBusyAt 24 = .ok (.iconst 0, 1) := by decide +kernel
theorem dX8_isBusyAt_25 : decode cX8_isBusyAt 25 = .ok (.ireturn, 1) := by decide +kernel
theorem dX9_init_0 : decode cX9_init 0 = .ok (.aload_n 0, 1) := by decide +kernel
theorem dX9_init_1 : decode cX9_init 1 = .ok (.invokespecial 3, 3) := by decide +kernel
theorem dX9_init_4 : decode cX9_init 4 = .ok (.aload_n 0, 1) := by decide +kernel
theorem dX9_init_5 : decode cX9_init 5 = .ok (.sipush 600, 3) := by decide +kernel
theorem dX9_init_8 : decode cX9_init 8 = .ok (.newarray .int, 2) := by decide +kernel
theorem dX9_init_10 : decode cX9_init 10 = .ok (.putfield 9, 3) := by decide +kernel
theorem dX9_init_13 : decode cX9_init 13 = .ok (.aload_n 0, 1) := by decide +kernel
theorem dX9_init_14 : decode cX9_init 14 = .ok (.new 13, 3) := by decide +kernel
theorem dX9_init_17 : decode cX9_init 17 = .ok (.dup, 1) := by decide +kernel
theorem dX9_init_18 : decode cX9_init 18 = .ok (.invokespecial 15, 3) := by decide +kernel
theorem dX9_init_21 : decode cX9_init 21 = .ok (.putfield 16, 3) := by decide +kernel
theorem dX9_init_24 : decode cX9_init 24 = .ok (.aload_n 0, 1) := by decide +kernel
theorem dX9_init_25 : decode cX9_init 25 = .ok (.new 20, 3) := by decide +kernel
theorem dX9_init_28 : decode cX9_init 28 = .ok (.dup, 1) := by decide +kernel
theorem dX9_init_29 : decode cX9_init 29 = .ok (.invokespecial 22, 3) := by decide +kernel
theorem dX9_init_32 : decode cX9_init 32 = .ok (.putfield 23, 3) := by decide +kernel
theorem dX9_init_35 : decode cX9_init 35 = .ok (.aload_n 0, 1) := by decide +kernel
theorem dX9_init_36 : decode cX9_init 36 = .ok (.new 27, 3) := by decide +kernel
theorem dX9_init_39 : decode cX9_init 39 = .ok (.dup, 1) := by decide +kernel
theorem dX9_init_40 : decode cX9_init 40 = .ok (.invokespecial 29, 3) := by decide +kernel
theorem dX9_init_43 : decode cX9_init 43 = .ok (.putfield 30, 3) := by decide +kernel
theorem dX9_init_46 : decode cX9_init 46 = .ok (.aload_n 0, 1) := by decide +kernel
theorem dX9_init_47 : decode cX9_init 47 = .ok (.iconst 0, 1) := by decide +kernel
theorem dX9_init_48 : decode cX9_init 48 = .ok (.putfield 34, 3) := by decide +kernel
theorem dX9_init_51 : decode cX9_init 51 = .ok (.aload_n 0, 1) := by decide +kernel
theorem dX9_init_52 : decode cX9_init 52 = .ok (.iconst 0, 1) := by decide +kernel
theorem dX9_init_53 : decode cX9_init 53 = .ok (.putfield 38, 3) := by decide +kernel
theorem dX9_init_56 : decode cX9_init 56 = .ok (.aload_n 0, 1) := by decide +kernel
theorem dX9_init_57 : decode cX9_init 57 = .ok (.iconst (-1), 1) := by decide +kernel
theorem dX9_init_58 : decode cX9_init 58 = .ok (.putfield 41, 3) := by decide +kernel
theorem dX9_init_61 : decode cX9_init 61 = .ok (.aload_n 0, 1) := by decide +kernel
theorem dX9_init_62 : decode cX9_init 62 = .ok (.iconst 0, 1) := by decide +kernel
theorem dX9_init_63 : decode cX9_init 63 = .ok (.putfield 44, 3) := by decide +kernel
theorem dX9_init_66 : decode cX9_init 66 = .ok (.bipush 6, 2) := by decide +kernel
theorem dX9_init_68 : decode cX9_init 68 = .ok (.anewarray 47, 3) := by decide +kernel
theorem dX9_init_71 : decode cX9_init 71 = .ok (.astore_n 1, 1) := by decide +kernel
theorem dX9_init_72 : decode cX9_init 72 = .ok (.iconst 0, 1) := by decide +kernel
theorem dX9_init_73 : decode cX9_init 73 = .ok (.istore_n 2, 1) := by decide +kernel
theorem dX9_init_74 : decode cX9_init 74 = .ok (.iload_n 2, 1) := by decide +kernel
theorem dX9_init_75 : decode cX9_init 75 = .ok (.bipush 6, 2) := by decide +kernel
theorem dX9_init_77 : decode cX9_init 77 = .ok (.if_icmp .ge 20, 3) := by decide +kernel
theorem dX9_init_80 : decode cX9_init 80 = .ok (.aload_n 1, 1) := by decide +kernel
theorem dX9_init_81 : decode cX9_init 81 = .ok (.iload_n 2, 1) := by decide +kernel
theorem dX9_init_82 : decode cX9_init 82 = .ok (.new 47, 3) := by decide +kernel
theorem dX9_init_85 : decode cX9_init 85 = .ok (.dup, 1) := by decide +kernel
theorem dX9_init_86 : decode cX9_init 86 = .ok (.iload_n 2, 1) := by decide +kernel
theorem dX9_init_87 : decode cX9_init 87 = .ok (.invokespecial 49, 3) := by decide +kernel
theorem dX9_init_90 : decode cX9_init 90 = .ok (.aastore, 1) := by decide +kernel
theorem dX9_init_91 : decode cX9_init 91 = .ok (.iinc 2 1, 3) := by decide +kernel
theorem dX9_init_94 : decode cX9_init 94 = .ok (.goto (-20), 3) := by decide +kernel
theorem dX9_init_97 : decode cX9_init 97 = .ok (.iconst 3, 1) := by decide +kernel
theorem dX9_init_98 : decode cX9_init 98 = .ok (.anewarray 52, 3) := by decide +kernel
theorem dX9_init_101 : decode cX9_init 101 = .ok (.astore_n 2, 1) := by decide +kernel
theorem dX9_init_102 : decode cX9_init 102 = .ok (.iconst 0, 1) := by decide +kernel
theorem dX9_init_103 : decode cX9_init 103 = .ok (.istore_n 3, 1) := by decide +kernel
theorem dX9_init_104 : decode cX9_init 104 = .ok (.iload_n 3, 1) := by decide +kernel
theorem dX9_init_105 : decode cX9_init 105 = .ok (.iconst 3, 1) := by decide +kernel
theorem dX9_init_106 : decode cX9_init 106 = .ok (.if_icmp .ge 19, 3) := by decide +kernel
theorem dX9_init_109 : decode cX9_init 109 = .ok (.aload_n 2, 1) := by decide +kernel
theorem dX9_init_110 : decode cX9_init 110 = .ok (.iload_n 3, 1) := by decide +kernel
theorem dX9_init_111 : decode cX9_init 111 = .ok (.new 52, 3) := by decide +kernel
theorem dX9_init_114 : decode cX9_init 114 = .ok (.dup, 1) := by decide +kernel
theorem dX9_init_115 : decode cX9_init 115 = .ok (.invokespecial 54, 3) := by decide +kernel
theorem dX9_init_118 : decode cX9_init 118 = .ok (.aastore, 1) := by decide +kernel
theorem dX9_init_119 : decode cX9_init 119 = .ok (.iinc 3 1, 3) := by decide +kernel
theorem dX9_init_122 : decode cX9_init 122 = .ok (.goto (-18), 3) := by decide +kernel
theorem dX9_init_125 : decode cX9_init 125 = .ok (.new 55, 3) := by decide +kernel
theorem dX9_init_128 : decode cX9_init 128 = .ok (.dup, 1) := by decide +kernel
theorem dX9_init_129 : decode cX9_init 129 = .ok (.invokespecial 57, 3) := by decide +kernel
theorem dX9_init_132 : decode cX9_init 132 = .ok (.astore_n 3, 1) := by decide +kernel
theorem dX9_init_133 : decode cX9_init 133 = .ok (.aload_n 0, 1) := by decide +kernel
theorem dX9_init_134 : decode cX9_init 134 = .ok (.aload_n 1, 1) := by decide +kernel
theorem dX9_init_135 : decode cX9_init 135 = .ok (.putfield 58, 3) := by decide +kernel
theorem dX9_init_138 : decode cX9_init 138 = .ok (.aload_n 0, 1) := by decide +kernel
theorem dX9_init_139 : decode cX9_init 139 = .ok (.aload_n 2, 1) := by decide +kernel
theorem dX9_init_140 : decode cX9_init 140 = .ok (.putfield 62, 3) := by decide +kernel
theorem dX9_init_143 : decode cX9_init 143 = .ok (.aload_n 0, 1) := by decide +kernel
theorem dX9_init_144 : decode cX9_init 144 = .ok (.aload_n 3, 1) := by decide +kernel
theorem dX9_init_145 : decode cX9_init 145 = .ok (.putfield 66, 3) := by decide +kernel
theorem dX9_init_148 : decode cX9_init 148 = .ok (.aload_n 0, 1) := by decide +kernel
theorem dX9_init_149 : decode cX9_init 149 = .ok (.new 70, 3) := by decide +kernel
theorem dX9_init_152 : decode cX9_init 152 = .ok (.dup, 1) := by decide +kernel
theorem dX9_init_153 : decode cX9_init 153 = .ok (.aload_n 1, 1) := by decide +kernel
theorem dX9_init_154 : decode cX9_init 154 = .ok (.aload_n 3, 1) := by decide +kernel
theorem dX9_init_155 : decode cX9_init 155 = .ok (.aload_n 2, 1) := by decide +kernel
theorem dX9_init_156 : decode cX9_init 156 = .ok (.iconst 0, 1) := by decide +kernel
theorem dX9_init_157 : decode cX9_init 157 = .ok (.aaload, 1) := by decide +kernel
theorem dX9_init_158 : decode cX9_init 158 = .ok (.invokespecial 72, 3) := by decide +kernel
theorem dX9_init_161 : decode cX9_init 161 = .ok (.putfield 75, 3) := by decide +kernel
theorem dX9_init_164 : decode cX9_init 164 = .ok (.return_, 1) := by decide +kernel
theorem dX9_feed_0 : decode cX9_feed 0 = .ok (.aload_n 0, 1) := by decide +kernel
theorem dX9_feed_1 : decode cX9_feed 1 = .ok (.getfield 34, 3) := by decide +kernel
theorem dX9_feed_4 : decode cX9_feed 4 = .ok (.sipush 580, 3) := by decide +kernel
theorem dX9_feed_7 : decode cX9_feed 7 = .ok (.if_icmp .le 6, 3) := by decide +kernel
theorem dX9_feed_10 : decode cX9_feed 10 = .ok (.bipush (-3), 2) := by decide +kernel
theorem dX9_feed_12 : decode cX9_feed 12 = .ok (.ireturn, 1) := by decide +kernel
theorem dX9_feed_13 : decode cX9_feed 13 = .ok (.aload_n 0, 1) := by decide +kernel
theorem dX9_feed_14 : decode cX9_feed 14 = .ok (.iload_n 1, 1) := by decide +kernel
theorem dX9_feed_15 : decode cX9_feed 15 = .ok (.invokevirtual 79, 3) := by decide +kernel
theorem dX9_feed_18 : decode cX9_feed 18 = .ok (.aload_n 0, 1) := by decide +kernel
theorem dX9_feed_19 : decode cX9_feed 19 = .ok (.iload_n 2, 1) := by decide +kernel
theorem dX9_feed_20 : decode cX9_feed 20 = .ok (.invokevirtual 79, 3) := by decide +kernel
theorem dX9_feed_23 : decode cX9_feed 23 = .ok (.aload_n 0, 1) := by decide +kernel
theorem dX9_feed_24 : decode cX9_feed 24 = .ok (.iload_n 3, 1) := by decide +kernel
theorem dX9_feed_25 : decode cX9_feed 25 = .ok (.invokevirtual 79, 3) := by decide +kernel
theorem dX9_feed_28 : decode cX9_feed 28 = .ok (.aload_n 0, 1) := by decide +kernel
theorem dX9_feed_29 : decode cX9_feed 29 = .ok (.iload 4, 2) := by decide +kernel
theorem dX9_feed_31 : decode cX9_feed 31 = .ok (.invokevirtual 79, 3) := by decide +kernel
theorem dX9_feed_34 : decode cX9_feed 34 = .ok (.aload_n 0, 1) := by decide +kernel
theorem dX9_feed_35 : decode cX9_feed 35 = .ok (.iload 5, 2) := by decide +kernel
theorem dX9_feed_37 : decode cX9_feed 37 = .ok (.invokevirtual 79, 3) := by decide +kernel
theorem dX9_feed_40 : decode cX9_feed 40 = .ok (.aload_n 0, 1) := by decide +kernel
theorem dX9_feed_41 : decode cX9_feed 41 = .ok (.getfield 34, 3) := by decide +kernel
theorem dX9_feed_44 : decode cX9_feed 44 = .ok (.ireturn, 1) := by decide +kernel
theorem dX9_cut_0 : decode cX9_cut 0 = .ok (.iload_n 1, 1) := by decide +kernel
theorem dX9_cut_1 : decode cX9_cut 1 = .ok (.ifCond .lt 11, 3) := by decide +kernel
theorem dX9_cut_4 : decode cX9_cut 4 = .ok (.iload_n 1, 1) := by decide +kernel
theorem dX9_cut_5 : decode cX9_cut 5 = .ok (.aload_n 0, 1) := by decide +kernel
theorem dX9_cut_6 : decode cX9_cut 6 = .ok (.getfield 34, 3) := by decide +kernel
theorem dX9_cut_9 : decode cX9_cut 9 = .ok (.if_icmp .le 6, 3) := by decide +kernel
theorem dX9_cut_12 : decode cX9_cut 12 = .ok (.bipush (-2), 2) := by decide +kernel
theorem dX9_cut_14 : decode cX9_cut 14 = .ok (.ireturn, 1) := by decide +kernel
theorem dX9_cut_15 : decode cX9_cut 15 = .ok (.aload_n 0, 1) := by decide +kernel
theorem dX9_cut_16 : decode cX9_cut 16 = .ok (.dup, 1) := by decide +kernel
theorem dX9_cut_17 : decode cX9_cut 17 = .ok (.getfield 34, 3) := by decide +kernel
theorem dX9_cut_20 : decode cX9_cut 20 = .ok (.iload_n 1, 1) := by decide +kernel
theorem dX9_cut_21 : decode cX9_cut 21 = .ok (.isub, 1) := by decide +kernel
theorem dX9_cut_22 : decode cX9_cut 22 = .ok (.putfield 34, 3) := by decide +kernel
theorem dX9_cut_25 : decode cX9_cut 25 = .ok (.aload_n 0, 1) := by decide +kernel
theorem dX9_cut_26 : decode cX9_cut 26 = .ok (.getfield 34, 3) := by decide +kernel
theorem dX9_cut_29 : decode cX9_cut 29 = .ok (.ireturn, 1) := by decide +kernel
theorem dX9_make_0 : decode cX9_make 0 = .ok (.aload_n 0, 1) := by decide +kernel
theorem dX9_make_1 : decode cX9_make 1 = .ok (.getfield 34, 3) := by decide +kernel
theorem dX9_make_4 : decode cX9_make 4 = .ok (.istore_n 1, 1) := by decide +kernel
theorem dX9_make_5 : decode cX9_make 5 = .ok (.aload_n 0, 1) := by decide +kernel
theorem dX9_make_6 : decode cX9_make 6 = .ok (.iconst 0, 1) := by decide +kernel
theorem dX9_make_7 : decode cX9_make 7 = .ok (.putfield 34, 3) := by decide +kernel
theorem dX9_make_10 : decode cX9_make 10 = .ok (.aload_n 0, 1) := by decide +kernel
theorem dX9_make_11 : decode cX9_make 11 = .ok (.iconst (-1), 1) := by decide +kernel
theorem dX9_make_12 : decode cX9_make 12 = .ok (.putfield 41, 3) := by decide +kernel
theorem dX9_make_15 : decode cX9_make 15 = .ok (.aload_n 0, 1) := by decide +kernel
theorem dX9_make_16 : decode cX9_make 16 = .ok (.getfield 38, 3) := by decide +kernel
theorem dX9_make_19 : decode cX9_make 19 = .ok (.ifCond .lt 12, 3) := by decide +kernel
theorem dX9_make_22 : decode cX9_make 22 = .ok (.aload_n 0, 1) := by decide +kernel
theorem dX9_make_23 : decode cX9_make 23 = .ok (.getfield 38, 3) := by decide +kernel
theorem dX9_make_26 : decode cX9_make 26 = .ok (.bipush 6, 2) := by decide +kernel
theorem dX9_make_28 : decode cX9_make 28 = .ok (.if_icmp .lt 6, 3) := by decide +kernel
theorem dX9_make_31 : decode cX9_make 31 = .ok (.bipush (-3), 2) := by decide +kernel
theorem dX9_make_33 : decode cX9_make 33 = .ok (.ireturn, 1) := by decide +kernel
theorem dX9_make_34 : decode cX9_make 34 = .ok (.aload_n 0, 1) := by decide +kernel
theorem dX9_make_35 : decode cX9_make 35 = .ok (.getfield 58, 3) := by decide +kernel
theorem dX9_make_38 : decode cX9_make 38 = .ok (.aload_n 0, 1) := by decide +kernel
theorem dX9_make_39 : decode cX9_make 39 = .ok (.getfield 38, 3) := by decide +kernel
theorem dX9_make_42 : decode cX9_make 42 = .ok (.aaload, 1) := by decide +kernel
theorem dX9_make_43 : decode cX9_make 43 = .ok (.astore_n 2, 1) := by decide +kernel
theorem dX9_make_44 : decode cX9_make 44 = .ok (.aload_n 0, 1) := by decide +kernel
theorem dX9_make_45 : decode cX9_make 45 = .ok (.aload_n 2, 1) := by decide +kernel
theorem dX9_make_46 : decode cX9_make 46 = .ok (.iload_n 1, 1) := by decide +kernel
theorem dX9_make_47 : decode cX9_make 47 = .ok (.invokevirtual 82, 3) := by decide +kernel
theorem dX9_make_50 : decode cX9_make 50 = .ok (.istore_n 3, 1) := by decide +kernel
theorem dX9_make_51 : decode cX9_make 51 = .ok (.iload_n 3, 1) := by decide +kernel
theorem dX9_make_52 : decode cX9_make 52 = .ok (.ifCond .eq 8, 3) := by decide +kernel
theorem dX9_make_55 : decode cX9_make 55 = .ok (.bipush (-10), 2) := by decide +kernel
theorem dX9_make_57 : decode cX9_make 57 = .ok (.iload_n 3, 1) := by decide +kernel
theorem dX9_make_58 : decode cX9_make 58 = .ok (.isub, 1) := by decide +kernel
theorem dX9_make_59 : decode cX9_make 59 = .ok (.ireturn, 1) := by decide +kernel
theorem dX9_make_60 : decode cX9_make 60 = .ok (.aload_n 0, 1) := by decide +kernel
theorem dX9_make_61 : decode cX9_make 61 = .ok (.dup, 1) := by decide +kernel
theorem dX9_make_62 : decode cX9_make 62 = .ok (.getfield 38, 3) := by decide +kernel
theorem dX9_make_65 : decode cX9_make 65 = .ok (.iconst 1, 1) := by decide +kernel
theorem dX9_make_66 : decode cX9_make 66 = .ok (.iadd, 1) := by decide +kernel
theorem dX9_make_67 : decode cX9_make 67 = .ok (.putfield 38, 3) := by decide +kernel
theorem dX9_make_70 : decode cX9_make 70 = .ok (.aload_n 0, 1) := by decide +kernel
theorem dX9_make_71 : decode cX9_make 71 = .ok (.getfield 38, 3) := by decide +kernel
theorem dX9_make_74 : decode cX9_make 74 = .ok (.iconst 1, 1) := by decide +kernel
theorem dX9_make_75 : decode cX9_make 75 = .ok (.isub, 1) := by decide +kernel
theorem dX9_make_76 : decode cX9_make 76 = .ok (.ireturn, 1) := by decide +kernel
theorem dX9_place_0 : decode cX9_place 0 = .ok (.aload_n 0, 1) := by decide +kernel
theorem dX9_place_1 : decode cX9_place 1 = .ok (.getfield 41, 3) := by decide +kernel
theorem dX9_place_4 : decode cX9_place 4 = .ok (.ireturn, 1) := by decide +kernel
theorem dX9_method_0 : decode cX9_method 0 = .ok (.aload_n 0, 1) := by decide +kernel
theorem dX9_method_1 : decode cX9_method 1 = .ok (.iload_n 1, 1) := by decide +kernel
theorem dX9_method_2 : decode cX9_method 2 = .ok (.invokevirtual 86, 3) := by decide +kernel
theorem dX9_method_5 : decode cX9_method 5 = .ok (.ifCond .ne 6, 3) := by decide +kernel
theorem dX9_method_8 : decode cX9_method 8 = .ok (.bipush (-2), 2) := by decide +kernel
theorem dX9_method_10 : decode cX9_method 10 = .ok (.ireturn, 1) := by decide +kernel
theorem dX9_method_11 : decode cX9_method 11 = .ok (.aload_n 0, 1) := by decide +kernel
theorem dX9_method_12 : decode cX9_method 12 = .ok (.getfield 58, 3) := by decide +kernel
theorem dX9_method_15 : decode cX9_method 15 = .ok (.iload_n 1, 1) := by decide +kernel
theorem dX9_method_16 : decode cX9_method 16 = .ok (.aaload, 1) := by decide +kernel
theorem dX9_method_17 : decode cX9_method 17 = .ok (.iload_n 2, 1) := by decide +kernel
theorem dX9_method_18 : decode cX9_method 18 = .ok (.invokevirtual 90, 3) := by decide +kernel
theorem dX9_method_21 : decode cX9_method 21 = .ok (.ireturn, 1) := by decide +kernel
theorem dX9_octet_0 : decode cX9_octet 0 = .ok (.aload_n 0, 1) := by decide +kernel
theorem dX9_octet_1 : decode cX9_octet 1 = .ok (.iload_n 1, 1) := by decide +kernel
theorem dX9_octet_2 : decode cX9_octet 2 = .ok (.invokevirtual 86, 3) := by decide +kernel
theorem dX9_octet_5 : decode cX9_octet 5 = .ok (.ifCond .ne 5, 3) := by decide +kernel
theorem dX9_octet_8 : decode cX9_octet 8 = .ok (.iconst (-1), 1) := by decide +kernel
theorem dX9_octet_9 : decode cX9_octet 9 = .ok (.ireturn, 1) := by decide +kernel
theorem dX9_octet_10 : decode cX9_octet 10 = .ok (.aload_n 0, 1) := by decide +kernel
theorem dX9_octet_11 : decode cX9_octet 11 = .ok (.getfield 58, 3) := by decide +kernel
theorem dX9_octet_14 : decode cX9_octet 14 = .ok (.iload_n 1, 1) := by decide +kernel
theorem dX9_octet_15 : decode cX9_octet 15 = .ok (.aaload, 1) := by decide +kernel
theorem dX9_octet_16 : decode cX9_octet 16 = .ok (.astore 4, 2) := by decide +kernel
theorem dX9_octet_18 : decode cX9_octet 18 = .ok (.iload_n 2, 1) := by decide +kernel
theorem dX9_octet_19 : decode cX9_octet 19 = .ok (.ifCond .eq 36, 3) := by decide +kernel
theorem dX9_octet_22 : decode cX9_octet 22 = .ok (.iload_n 3, 1) := by decide +kernel
theorem dX9_octet_23 : decode cX9_octet 23 = .ok (.ifCond .lt 30, 3) := by decide +kernel
theorem dX9_octet_26 : decode cX9_octet 26 = .ok (.iload_n 3, 1) := by decide +kernel
theorem dX9_octet_27 : decode cX9_octet 27 = .ok (.aload 4, 2) := by decide +kernel
theorem dX9_octet_29 : decode cX9_octet 29 = .ok (.getfield 94, 3) := by decide +kernel
theorem dX9_octet_32 : decode cX9_octet 32 = .ok (.invokevirtual 98, 3) := by decide +kernel
theorem dX9_octet_35 : decode cX9_octet 35 = .ok (.if_icmp .ge 18, 3) := by decide +kernel
theorem dX9_octet_38 : decode cX9_octet 38 = .ok (.aload 4, 2) := by decide +kernel
theorem dX9_octet_40 : decode cX9_octet 40 = .ok (.getfield 94, 3) := by decide +kernel
theorem dX9_octet_43 : decode cX9_octet 43 = .ok (.getfield 104, 3) := by decide +kernel
theorem dX9_octet_46 : decode cX9_octet 46 = .ok (.iload_n 3, 1) := by decide +kernel
theorem dX9_octet_47 : decode cX9_octet 47 = .ok (.invokestatic 107, 3) := by decide +kernel
theorem dX9_octet_50 : decode cX9_octet 50 = .ok (.goto 4, 3) := by decide +kernel
theorem dX9_octet_53 : decode cX9_octet 53 = .ok (.iconst (-1), 1) := by decide +kernel
theorem dX9_octet_54 : decode cX9_octet 54 = .ok (.ireturn, 1) := by decide +kernel
theorem dX9_octet_55 : decode cX9_octet 55 = .ok (.iload_n 3, 1) := by decide +kernel
theorem dX9_octet_56 : decode cX9_octet 56 = .ok (.ifCond .lt 24, 3) := by decide +kernel
theorem dX9_octet_59 : decode cX9_octet 59 = .ok (.iload_n 3, 1) := by decide +kernel
theorem dX9_octet_60 : decode cX9_octet 60 = .ok (.aload 4, 2) := by decide +kernel
theorem dX9_octet_62 : decode cX9_octet 62 = .ok (.getfield 111, 3) := by decide +kernel
theorem dX9_octet_65 : decode cX9_octet 65 = .ok (.if_icmp .ge 15, 3) := by decide +kernel
theorem dX9_octet_68 : decode cX9_octet 68 = .ok (.aload 4, 2) := by decide +kernel
theorem dX9_octet_70 : decode cX9_octet 70 = .ok (.getfield 114, 3) := by decide +kernel
theorem dX9_octet_73 : decode cX9_octet 73 = .ok (.iload_n 3, 1) := by decide +kernel
theorem dX9_octet_74 : decode cX9_octet 74 = .ok (.invokestatic 107, 3) := by decide +kernel
theorem dX9_octet_77 : decode cX9_octet 77 = .ok (.goto 4, 3) := by decide +kernel
theorem dX9_octet_80 : decode cX9_octet 80 = .ok (.iconst (-1), 1) := by decide +kernel
theorem dX9_octet_81 : decode cX9_octet 81 = .ok (.ireturn, 1) := by decide +kernel
theorem dX9_handler_0 : decode cX9_handler 0 = .ok (.aload_n 0, 1) := by decide +kernel
theorem dX9_handler_1 : decode cX9_handler 1 = .ok (.iload_n 1, 1) := by decide +kernel
theorem dX9_handler_2 : decode cX9_handler 2 = .ok (.invokevirtual 86, 3) := by decide +kernel
theorem dX9_handler_5 : decode cX9_handler 5 = .ok (.ifCond .eq 18, 3) := by decide +kernel
theorem dX9_handler_8 : decode cX9_handler 8 = .ok (.iload_n 3, 1) := by decide +kernel
theorem dX9_handler_9 : decode cX9_handler 9 = .ok (.ifCond .lt 14, 3) := by decide +kernel
theorem dX9_handler_12 : decode cX9_handler 12 = .ok (.iload 4, 2) := by decide +kernel
theorem dX9_handler_14 : decode cX9_handler 14 = .ok (.ifCond .lt 9, 3) := by decide +kernel
theorem dX9_handler_17 : decode cX9_handler 17 = .ok (.iload 4, 2) := by decide +kernel
theorem dX9_handler_19 : decode cX9_handler 19 = .ok (.iconst 4, 1) := by decide +kernel
theorem dX9_handler_20 : decode cX9_handler 20 = .ok (.if_icmp .lt 5, 3) := by decide +kernel
theorem dX9_handler_23 : decode cX9_handler 23 = .ok (.iconst (-1), 1) := by decide +kernel
theorem dX9_handler_24 : decode cX9_handler 24 = .ok (.ireturn, 1) := by decide +kernel
theorem dX9_handler_25 : decode cX9_handler 25 = .ok (.aload_n 0, 1) := by decide +kernel
theorem dX9_handler_26 : decode cX9_handler 26 = .ok (.getfield 58, 3) := by decide +kernel
theorem dX9_handler_29 : decode cX9_handler 29 = .ok (.iload_n 1, 1) := by decide +kernel
theorem dX9_handler_30 : decode cX9_handler 30 = .ok (.aaload, 1) := by decide +kernel
theorem dX9_handler_31 : decode cX9_handler 31 = .ok (.astore 5, 2) := by decide +kernel
theorem dX9_handler_33 : decode cX9_handler 33 = .ok (.iload_n 2, 1) := by decide +kernel
theorem dX9_handler_34 : decode cX9_handler 34 = .ok (.ifCond .eq 34, 3) := by decide +kernel
theorem dX9_handler_37 : decode cX9_handler 37 = .ok (.iload_n 3, 1) := by decide +kernel
theorem dX9_handler_38 : decode cX9_handler 38 = .ok (.aload 5, 2) := by decide +kernel
theorem dX9_handler_40 : decode cX9_handler 40 = .ok (.getfield 94, 3) := by decide +kernel
theorem dX9_handler_43 : decode cX9_handler 43 = .ok (.invokevirtual 115, 3) := by decide +kernel
theorem dX9_handler_46 : decode cX9_handler 46 = .ok (.if_icmp .ge 20, 3) := by decide +kernel
theorem dX9_handler_49 : decode cX9_handler 49 = .ok (.aload 5, 2) := by decide +kernel
theorem dX9_handler_51 : decode cX9_handler 51 = .ok (.getfield 94, 3) := by decide +kernel
theorem dX9_handler_54 : decode cX9_handler 54 = .ok (.getfield 118, 3) := by decide +kernel
theorem dX9_handler_57 : decode cX9_handler 57 = .ok (.iload_n 3, 1) := by decide +kernel
theorem dX9_handler_58 : decode cX9_handler 58 = .ok (.iload 4, 2) := by decide +kernel
theorem dX9_handler_60 : decode cX9_handler 60 = .ok (.invokestatic 121, 3) := by decide +kernel
theorem dX9_handler_63 : decode cX9_handler 63 = .ok (.goto 4, 3) := by decide +kernel
theorem dX9_handler_66 : decode cX9_handler 66 = .ok (.iconst (-1), 1) := by decide +kernel
theorem dX9_handler_67 : decode cX9_handler 67 = .ok (.ireturn, 1) := by decide +kernel
theorem dX9_handler_68 : decode cX9_handler 68 = .ok (.iload_n 3, 1) := by decide +kernel
theorem dX9_handler_69 : decode cX9_handler 69 = .ok (.aload 5, 2) := by decide +kernel
theorem dX9_handler_71 : decode cX9_handler 71 = .ok (.getfield 125, 3) := by decide +kernel
theorem dX9_handler_74 : decode cX9_handler 74 = .ok (.if_icmp .ge 17, 3) := by decide +kernel
theorem dX9_handler_77 : decode cX9_handler 77 = .ok (.aload 5, 2) := by decide +kernel
theorem dX9_handler_79 : decode cX9_handler 79 = .ok (.getfield 128, 3) := by decide +kernel
theorem dX9_handler_82 : decode cX9_handler 82 = .ok (.iload_n 3, 1) := by decide +kernel
theorem dX9_handler_83 : decode cX9_handler 83 = .ok (.iload 4, 2) := by decide +kernel
theorem dX9_handler_85 : decode cX9_handler 85 = .ok (.invokestatic 121, 3) := by decide +kernel
theorem dX9_handler_88 : decode cX9_handler 88 = .ok (.goto 4, 3) := by decide +kernel
theorem dX9_handler_91 : decode cX9_handler 91 = .ok (.iconst (-1), 1) := by decide +kernel
theorem dX9_handler_92 : decode cX9_handler 92 = .ok (.ireturn, 1) := by decide +kernel
theorem dX9_type_0 : decode cX9_type 0 = .ok (.aload_n 0, 1) := by decide +kernel
theorem dX9_type_1 : decode cX9_type 1 = .ok (.iload_n 1, 1) := by decide +kernel
theorem dX9_type_2 : decode cX9_type 2 = .ok (.invokevirtual 86, 3) := by decide +kernel
theorem dX9_type_5 : decode cX9_type 5 = .ok (.ifCond .eq 17, 3) := by decide +kernel
theorem dX9_type_8 : decode cX9_type 8 = .ok (.aload_n 0, 1) := by decide +kernel
theorem dX9_type_9 : decode cX9_type 9 = .ok (.getfield 58, 3) := by decide +kernel
theorem dX9_type_12 : decode cX9_type 12 = .ok (.iload_n 1, 1) := by decide +kernel
theorem dX9_type_13 : decode cX9_type 13 = .ok (.aaload, 1) := by decide +kernel
theorem dX9_type_14 : decode cX9_type 14 = .ok (.iload_n 2, 1) := by decide +kernel
theorem dX9_type_15 : decode cX9_type 15 = .ok (.iload_n 3, 1) := by decide +kernel
theorem dX9_type_16 : decode cX9_type 16 = .ok (.invokevirtual 129, 3) := by decide +kernel
theorem dX9_type_19 : decode cX9_type 19 = .ok (.goto 4, 3) := by decide +kernel
theorem dX9_type_22 : decode cX9_type 22 = .ok (.iconst (-1), 1) := by decide +kernel
theorem dX9_type_23 : decode cX9_type 23 = .ok (.ireturn, 1) := by decide +kernel
theorem dX9_moved_0 : decode cX9_moved 0 = .ok (.aload_n 0, 1) := by decide +kernel
theorem dX9_moved_1 : decode cX9_moved 1 = .ok (.iload_n 1, 1) := by decide +kernel
theorem dX9_moved_2 : decode cX9_moved 2 = .ok (.invokevirtual 86, 3) := by decide +kernel
theorem dX9_moved_5 : decode cX9_moved 5 = .ok (.ifCond .eq 31, 3) := by decide +kernel
theorem dX9_moved_8 : decode cX9_moved 8 = .ok (.aload_n 0, 1) := by decide +kernel
theorem dX9_moved_9 : decode cX9_moved 9 = .ok (.getfield 58, 3) := by decide +kernel
theorem dX9_moved_12 : decode cX9_moved 12 = .ok (.iload_n 1, 1) := by decide +kernel
theorem dX9_moved_13 : decode cX9_moved 13 = .ok (.aaload, 1) := by decide +kernel
theorem dX9_moved_14 : decode cX9_moved 14 = .ok (.iload_n 2, 1) := by decide +kernel
theorem dX9_moved_15 : decode cX9_moved 15 = .ok (.invokevirtual 133, 3) := by decide +kernel
theorem dX9_moved_18 : decode cX9_moved 18 = .ok (.ifCond .eq 18, 3) := by decide +kernel
theorem dX9_moved_21 : decode cX9_moved 21 = .ok (.aload_n 0, 1) := by decide +kernel
theorem dX9_moved_22 : decode cX9_moved 22 = .ok (.getfield 58, 3) := by decide +kernel
theorem dX9_moved_25 : decode cX9_moved 25 = .ok (.iload_n 1, 1) := by decide +kernel
theorem dX9_moved_26 : decode cX9_moved 26 = .ok (.aaload, 1) := by decide +kernel
theorem dX9_moved_27 : decode cX9_moved 27 = .ok (.getfield 94, 3) := by decide +kernel
theorem dX9_moved_30 : decode cX9_moved 30 = .ok (.getfield 136, 3) := by decide +kernel
theorem dX9_moved_33 : decode cX9_moved 33 = .ok (.ifCond .ne 5, 3) := by decide +kernel
theorem dX9_moved_36 : decode cX9_moved 36 = .ok (.iconst (-1), 1) := by decide +kernel
theorem dX9_moved_37 : decode cX9_moved 37 = .ok (.ireturn, 1) := by decide +kernel
theorem dX9_moved_38 : decode cX9_moved 38 = .ok (.aload_n 0, 1) := by decide +kernel
theorem dX9_moved_39 : decode cX9_moved 39 = .ok (.getfield 58, 3) := by decide +kernel
theorem dX9_moved_42 : decode cX9_moved 42 = .ok (.iload_n 1, 1) := by decide +kernel
theorem dX9_moved_43 : decode cX9_moved 43 = .ok (.aaload, 1) := by decide +kernel
theorem dX9_moved_44 : decode cX9_moved 44 = .ok (.getfield 94, 3) := by decide +kernel
theorem dX9_moved_47 : decode cX9_moved 47 = .ok (.getfield 140, 3) := by decide +kernel
theorem dX9_moved_50 : decode cX9_moved 50 = .ok (.iload_n 2, 1) := by decide +kernel
theorem dX9_moved_51 : decode cX9_moved 51 = .ok (.iaload, 1) := by decide +kernel
theorem dX9_moved_52 : decode cX9_moved 52 = .ok (.ireturn, 1) := by decide +kernel
theorem dX9_probe_0 : decode cX9_probe 0 = .ok (.aload_n 0, 1) := by decide +kernel
theorem dX9_probe_1 : decode cX9_probe 1 = .ok (.iload_n 2, 1) := by decide +kernel
theorem dX9_probe_2 : decode cX9_probe 2 = .ok (.invokevirtual 86, 3) := by decide +kernel
theorem dX9_probe_5 : decode cX9_probe 5 = .ok (.ifCond .eq 17, 3) := by decide +kernel
theorem dX9_probe_8 : decode cX9_probe 8 = .ok (.aload_n 0, 1) := by decide +kernel
theorem dX9_probe_9 : decode cX9_probe 9 = .ok (.getfield 58, 3) := by decide +kernel
theorem dX9_probe_12 : decode cX9_probe 12 = .ok (.iload_n 2, 1) := by decide +kernel
theorem dX9_probe_13 : decode cX9_probe 13 = .ok (.aaload, 1) := by decide +kernel
theorem dX9_probe_14 : decode cX9_probe 14 = .ok (.iload_n 1, 1) := by decide +kernel
theorem dX9_probe_15 : decode cX9_probe 15 = .ok (.iload_n 3, 1) := by decide +kernel
theorem dX9_probe_16 : decode cX9_probe 16 = .ok (.invokevirtual 143, 3) := by decide +kernel
theorem dX9_probe_19 : decode cX9_probe 19 = .ok (.ifCond .ne 6, 3) := by decide +kernel
theorem dX9_probe_22 : decode cX9_probe 22 = .ok (.bipush (-2), 2) := by decide +kernel
theorem dX9_probe_24 : decode cX9_probe 24 = .ok (.ireturn, 1) := by decide +kernel
theorem dX9_probe_25 : decode cX9_probe 25 = .ok (.iload_n 1, 1) := by decide +kernel
theorem dX9_probe_26 : decode cX9_probe 26 = .ok (.bipush 6, 2) := by decide +kernel
theorem dX9_probe_28 : decode cX9_probe 28 = .ok (.if_icmp .ne 33, 3) := by decide +kernel
theorem dX9_probe_31 : decode cX9_probe 31 = .ok (.iload 4, 2) := by decide +kernel
theorem dX9_probe_33 : decode cX9_probe 33 = .ok (.iconst 1, 1) := by decide +kernel
theorem dX9_probe_34 : decode cX9_probe 34 = .ok (.if_icmp .lt 24, 3) := by decide +kernel
theorem dX9_probe_37 : decode cX9_probe 37 = .ok (.iload 4, 2) := by decide +kernel
theorem dX9_probe_39 : decode cX9_probe 39 = .ok (.sipush 1000, 3) := by decide +kernel
theorem dX9_probe_42 : decode cX9_probe 42 = .ok (.if_icmp .gt 16, 3) := by decide +kernel
theorem dX9_probe_45 : decode cX9_probe 45 = .ok (.iload 5, 2) := by decide +kernel
theorem dX9_probe_47 : decode cX9_probe 47 = .ok (.iconst 1, 1) := by decide +kernel
theorem dX9_probe_48 : decode cX9_probe 48 = .ok (.if_icmp .lt 10, 3) := by decide +kernel
theorem dX9_probe_51 : decode cX9_probe 51 = .ok (.iload 5, 2) := by decide +kernel
theorem dX9_probe_53 : decode cX9_probe 53 = .ok (.bipush 100, 2) := by decide +kernel
theorem dX9_probe_55 : decode cX9_probe 55 = .ok (.if_icmp .le 6, 3) := by decide +kernel
theorem dX9_probe_58 : decode cX9_probe 58 = .ok (.bipush (-2), 2) := by decide +kernel
theorem dX9_probe_60 : decode cX9_probe 60 = .ok (.ireturn, 1) := by decide +kernel
theorem dX9_probe_61 : decode cX9_probe 61 = .ok (.aload_n 0, 1) := by decide +kernel
theorem dX9_probe_62 : decode cX9_probe 62 = .ok (.getfield 66, 3) := by decide +kernel
theorem dX9_probe_65 : decode cX9_probe 65 = .ok (.getfield 147, 3) := by decide +kernel
theorem dX9_probe_68 : decode cX9_probe 68 = .ok (.bipush 24, 2) := by decide +kernel
theorem dX9_probe_70 : decode cX9_probe 70 = .ok (.if_icmp .lt 6, 3) := by decide +kernel
theorem dX9_probe_73 : decode cX9_probe 73 = .ok (.bipush (-3), 2) := by decide +kernel
theorem dX9_probe_75 : decode cX9_probe 75 = .ok (.ireturn, 1) := by decide +kernel
theorem dX9_probe_76 : decode cX9_probe 76 = .ok (.aload_n 0, 1) := by decide +kernel
theorem dX9_probe_77 : decode cX9_probe 77 = .ok (.getfield 66, 3) := by decide +kernel
theorem dX9_probe_80 : decode cX9_probe 80 = .ok (.iload_n 1, 1) := by decide +kernel
theorem dX9_probe_81 : decode cX9_probe 81 = .ok (.iload_n 2, 1) := by decide +kernel
theorem dX9_probe_82 : decode cX9_probe 82 = .ok (.iload_n 3, 1) := by decide +kernel
theorem dX9_probe_83 : decode cX9_probe 83 = .ok (.iload 4, 2) := by decide +kernel
theorem dX9_probe_85 : decode cX9_probe 85 = .ok (.iload 5, 2) := by decide +kernel
theorem dX9_probe_87 : decode cX9_probe 87 = .ok (.invokevirtual 150, 3) := by decide +kernel
theorem dX9_probe_90 : decode cX9_probe 90 = .ok (.ireturn, 1) := by decide +kernel
theorem dX9_clear_0 : decode cX9_clear 0 = .ok (.aload_n 0, 1) := by decide +kernel
theorem dX9_clear_1 : decode cX9_clear 1 = .ok (.getfield 66, 3) := by decide +kernel
theorem dX9_clear_4 : decode cX9_clear 4 = .ok (.getfield 147, 3) := by decide +kernel
theorem dX9_clear_7 : decode cX9_clear 7 = .ok (.istore_n 1, 1) := by decide +kernel
theorem dX9_clear_8 : decode cX9_clear 8 = .ok (.aload_n 0, 1) := by decide +kernel
theorem dX9_clear_9 : decode cX9_clear 9 = .ok (.getfield 66, 3) := by decide +kernel
theorem dX9_clear_12 : decode cX9_clear 12 = .ok (.iconst 0, 1) := by decide +kernel
theorem dX9_clear_13 : decode cX9_clear 13 = .ok (.putfield 147, 3) := by decide +kernel
theorem dX9_clear_16 : decode cX9_clear 16 = .ok (.iconst 0, 1) := by decide +kernel
theorem dX9_clear_17 : decode cX9_clear 17 = .ok (.istore_n 2, 1) := by decide +kernel
theorem dX9_clear_18 : decode cX9_clear 18 = .ok (.iload_n 2, 1) := by decide +kernel
theorem dX9_clear_19 : decode cX9_clear 19 = .ok (.bipush 6, 2) := by decide +kernel
theorem dX9_clear_21 : decode cX9_clear 21 = .ok (.if_icmp .ge 22, 3) := by decide +kernel
theorem dX9_clear_24 : decode cX9_clear 24 = .ok (.aload_n 0, 1) := by decide +kernel
theorem dX9_clear_25 : decode cX9_clear 25 = .ok (.getfield 58, 3) := by decide +kernel
theorem dX9_clear_28 : decode cX9_clear 28 = .ok (.iload_n 2, 1) := by decide +kernel
theorem dX9_clear_29 : decode cX9_clear 29 = .ok (.aaload, 1) := by decide +kernel
theorem dX9_clear_30 : decode cX9_clear 30 = .ok (.getfield 94, 3) := by decide +kernel
theorem dX9_clear_33 : decode cX9_clear 33 = .ok (.iconst 0, 1) := by decide +kernel
theorem dX9_clear_34 : decode cX9_clear 34 = .ok (.putfield 136, 3) := by decide +kernel
theorem dX9_clear_37 : decode cX9_clear 37 = .ok (.iinc 2 1, 3) := by decide +kernel
theorem dX9_clear_40 : decode cX9_clear 40 = .ok (.goto (-22), 3) := by decide +kernel
theorem dX9_clear_43 : decode cX9_clear 43 = .ok (.iload_n 1, 1) := by decide +kernel
theorem dX9_clear_44 : decode cX9_clear 44 = .ok (.ireturn, 1) := by decide +kernel
theorem dX9_weave_0 : decode cX9_weave 0 = .ok (.aload_n 0, 1) := by decide +kernel
theorem dX9_weave_1 : decode cX9_weave 1 = .ok (.iload_n 1, 1) := by decide +kernel
theorem dX9_weave_2 : decode cX9_weave 2 = .ok (.invokevirtual 86, 3) := by decide +kernel
theorem dX9_weave_5 : decode cX9_weave 5 = .ok (.ifCond .ne 6, 3) := by decide +kernel
theorem dX9_weave_8 : decode cX9_weave 8 = .ok (.bipush (-2), 2) := by decide +kernel
theorem dX9_weave_10 : decode cX9_weave 10 = .ok (.ireturn, 1) := by decide +kernel
theorem dX9_weave_11 : decode cX9_weave 11 = .ok (.aload_n 0, 1) := by decide +kernel
theorem dX9_weave_12 : decode cX9_weave 12 = .ok (.getfield 30, 3) := by decide +kernel
theorem dX9_weave_15 : decode cX9_weave 15 = .ok (.aload_n 0, 1) := by decide +kernel
theorem dX9_weave_16 : decode cX9_weave 16 = .ok (.getfield 58, 3) := by decide +kernel
theorem dX9_weave_19 : decode cX9_weave 19 = .ok (.iload_n 1, 1) := by decide +kernel
theorem dX9_weave_20 : decode cX9_weave 20 = .ok (.aaload, 1) := by decide +kernel
theorem dX9_weave_21 : decode cX9_weave 21 = .ok (.aload_n 0, 1) := by decide +kernel
theorem dX9_weave_22 : decode cX9_weave 22 = .ok (.getfield 66, 3) := by decide +kernel
theorem dX9_weave_25 : decode cX9_weave 25 = .ok (.invokevirtual 154, 3) := by decide +kernel
theorem dX9_weave_28 : decode cX9_weave 28 = .ok (.ireturn, 1) := by decide +kernel
theorem dX9_unweave_0 : decode cX9_unweave 0 = .ok (.aload_n 0, 1) := by decide +kernel
theorem dX9_unweave_1 : decode cX9_unweave 1 = .ok (.iload_n 1, 1) := by decide +kernel
theorem dX9_unweave_2 : decode cX9_unweave 2 = .ok (.invokevirtual 86, 3) := by decide +kernel
theorem dX9_unweave_5 : decode cX9_unweave 5 = .ok (.ifCond .ne 6, 3) := by decide +kernel
theorem dX9_unweave_8 : decode cX9_unweave 8 = .ok (.bipush (-2), 2) := by decide +kernel
theorem dX9_unweave_10 : decode cX9_unweave 10 = .ok (.ireturn, 1) := by decide +kernel
theorem dX9_unweave_11 : decode cX9_unweave 11 = .ok (.aload_n 0, 1) := by decide +kernel
theorem dX9_unweave_12 : decode cX9_unweave 12 = .ok (.getfield 58, 3) := by decide +kernel
theorem dX9_unweave_15 : decode cX9_unweave 15 = .ok (.iload_n 1, 1) := by decide +kernel
theorem dX9_unweave_16 : decode cX9_unweave 16 = .ok (.aaload, 1) := by decide +kernel
theorem dX9_unweave_17 : decode cX9_unweave 17 = .ok (.getfield 94, 3) := by decide +kernel
theorem dX9_unweave_20 : decode cX9_unweave 20 = .ok (.getfield 136, 3) := by decide +kernel
theorem dX9_unweave_23 : decode cX9_unweave 23 = .ok (.istore_n 2, 1) := by decide +kernel
theorem dX9_unweave_24 : decode cX9_unweave 24 = .ok (.aload_n 0, 1) := by decide +kernel
theorem dX9_unweave_25 : decode cX9_unweave 25 = .ok (.getfield 58, 3) := by decide +kernel
theorem dX9_unweave_28 : decode cX9_unweave 28 = .ok (.iload_n 1, 1) := by decide +kernel
theorem dX9_unweave_29 : decode cX9_unweave 29 = .ok (.aaload, 1) := by decide +kernel
theorem dX9_unweave_30 : decode cX9_unweave 30 = .ok (.getfield 94, 3) := by decide +kernel
theorem dX9_unweave_33 : decode cX9_unweave 33 = .ok (.iconst 0, 1) := by decide +kernel
theorem dX9_unweave_34 : decode cX9_unweave 34 = .ok (.putfield 136, 3) := by decide +kernel
theorem dX9_unweave_37 : decode cX9_unweave 37 = .ok (.iload_n 2, 1) := by decide +kernel
theorem dX9_unweave_38 : decode cX9_unweave 38 = .ok (.ifCond .eq 7, 3) := by decide +kernel
theorem dX9_unweave_41 : decode cX9_unweave 41 = .ok (.iconst 1, 1) := by decide +kernel
theorem dX9_unweave_42 : decode cX9_unweave 42 = .ok (.goto 4, 3) := by decide +kernel
theorem dX9_unweave_45 : decode cX9_unweave 45 = .ok (.iconst 0, 1) := by decide +kernel
theorem dX9_unweave_46 : decode cX9_unweave 46 = .ok (.ireturn, 1) := by decide +kernel
theorem dX9_run_0 : decode cX9_run 0 = .ok (.iload_n 1, 1) := by decide +kernel
theorem dX9_run_1 : decode cX9_run 1 = .ok (.invokestatic 158, 3) := by decide +kernel
theorem dX9_run_4 : decode cX9_run 4 = .ok (.ifCond .eq 25, 3) := by decide +kernel
theorem dX9_run_7 : decode cX9_run 7 = .ok (.aload_n 0, 1) := by decide +kernel
theorem dX9_run_8 : decode cX9_run 8 = .ok (.iload_n 2, 1) := by decide +kernel
theorem dX9_run_9 : decode cX9_run 9 = .ok (.invokevirtual 86, 3) := by decide +kernel
theorem dX9_run_12 : decode cX9_run 12 = .ok (.ifCond .eq 17, 3) := by decide +kernel
theorem dX9_run_15 : decode cX9_run 15 = .ok (.iload 5, 2) := by decide +kernel
theorem dX9_run_17 : decode cX9_run 17 = .ok (.iconst 1, 1) := by decide +kernel
theorem dX9_run_18 : decode cX9_run 18 = .ok (.if_icmp .lt 11, 3) := by decide +kernel
theorem dX9_run_21 : decode cX9_run 21 = .ok (.iload 5, 2) := by decide +kernel
theorem dX9_run_23 : decode cX9_run 23 = .ok (.sipush 3000, 3) := by decide +kernel
theorem dX9_run_26 : decode cX9_run 26 = .ok (.if_icmp .le 6, 3) := by decide +kernel
theorem dX9_run_29 : decode cX9_run 29 = .ok (.bipush (-2), 2) := by decide +kernel
theorem dX9_run_31 : decode cX9_run 31 = .ok (.ireturn, 1) := by decide +kernel
theorem dX9_run_32 : decode cX9_run 32 = .ok (.aload_n 0, 1) := by decide +kernel
theorem dX9_run_33 : decode cX9_run 33 = .ok (.dup, 1) := by decide +kernel
theorem dX9_run_34 : decode cX9_run 34 = .ok (.getfield 44, 3) := by decide +kernel
theorem dX9_run_37 : decode cX9_run 37 = .ok (.iconst 1, 1) := by decide +kernel
theorem dX9_run_38 : decode cX9_run 38 = .ok (.iadd, 1) := by decide +kernel
theorem dX9_run_39 : decode cX9_run 39 = .ok (.putfield 44, 3) := by decide +kernel
theorem dX9_run_42 : decode cX9_run 42 = .ok (.aload_n 0, 1) := by decide +kernel
theorem dX9_run_43 : decode cX9_run 43 = .ok (.getfield 62, 3) := by decide +kernel
theorem dX9_run_46 : decode cX9_run 46 = .ok (.iload_n 1, 1) := by decide +kernel
theorem dX9_run_47 : decode cX9_run 47 = .ok (.aaload, 1) := by decide +kernel
theorem dX9_run_48 : decode cX9_run 48 = .ok (.astore 6, 2) := by decide +kernel
theorem dX9_run_50 : decode cX9_run 50 = .ok (.aload_n 0, 1) := by decide +kernel
theorem dX9_run_51 : decode cX9_run 51 = .ok (.getfield 75, 3) := by decide +kernel
theorem dX9_run_54 : decode cX9_run 54 = .ok (.aload 6, 2) := by decide +kernel
theorem dX9_run_56 : decode cX9_run 56 = .ok (.iload_n 1, 1) := by decide +kernel
theorem dX9_run_57 : decode cX9_run 57 = .ok (.aload_n 0, 1) := by decide +kernel
theorem dX9_run_58 : decode cX9_run 58 = .ok (.getfield 58, 3) := by decide +kernel
theorem dX9_run_61 : decode cX9_run 61 = .ok (.iload_n 2, 1) := by decide +kernel
theorem dX9_run_62 : decode cX9_run 62 = .ok (.aaload, 1) := by decide +kernel
theorem dX9_run_63 : decode cX9_run 63 = .ok (.iload_n 3, 1) := by decide +kernel
theorem dX9_run_64 : decode cX9_run 64 = .ok (.iload 4, 2) := by decide +kernel
theorem dX9_run_66 : decode cX9_run 66 = .ok (.iload 5, 2) := by decide +kernel
theorem dX9_run_68 : decode cX9_run 68 = .ok (.invokevirtual 161, 3) := by decide +kernel
theorem dX9_run_71 : decode cX9_run 71 = .ok (.aload 6, 2) := by decide +kernel
theorem dX9_run_73 : decode cX9_run 73 = .ok (.getfield 165, 3) := by decide +kernel
theorem dX9_run_76 : decode cX9_run 76 = .ok (.ireturn, 1) := by decide +kernel
theorem dX9_told_0 : decode cX9_told 0 = .ok (.iload_n 1, 1) := by decide +kernel
theorem dX9_told_1 : decode cX9_told 1 = .ok (.invokestatic 158, 3) := by decide +kernel
theorem dX9_told_4 : decode cX9_told 4 = .ok (.ifCond .eq 16, 3) := by decide +kernel
theorem dX9_told_7 : decode cX9_told 7 = .ok (.aload_n 0, 1) := by decide +kernel
theorem dX9_told_8 : decode cX9_told 8 = .ok (.getfield 62, 3) := by decide +kernel
theorem dX9_told_11 : decode cX9_told 11 = .ok (.iload_n 1, 1) := by decide +kernel
theorem dX9_told_12 : decode cX9_told 12 = .ok (.aaload, 1) := by decide +kernel
theorem dX9_told_13 : decode cX9_told 13 = .ok (.iload_n 2, 1) := by decide +kernel
theorem dX9_told_14 : decode cX9_told 14 = .ok (.invokevirtual 168, 3) := by decide +kernel
theorem dX9_told_17 : decode cX9_told 17 = .ok (.goto 5, 3) := by decide +kernel
theorem dX9_told_20 : decode cX9_told 20 = .ok (.bipush (-2), 2) := by decide +kernel
theorem dX9_told_22 : decode cX9_told 22 = .ok (.ireturn, 1) := by decide +kernel
theorem dX9_mark_0 : decode cX9_mark 0 = .ok (.iload_n 1, 1) := by decide +kernel
theorem dX9_mark_1 : decode cX9_mark 1 = .ok (.invokestatic 158, 3) := by decide +kernel
theorem dX9_mark_4 : decode cX9_mark 4 = .ok (.ifCond .eq 16, 3) := by decide +kernel
theorem dX9_mark_7 : decode cX9_mark 7 = .ok (.aload_n 0, 1) := by decide +kernel
theorem dX9_mark_8 : decode cX9_mark 8 = .ok (.getfield 62, 3) := by decide +kernel
theorem dX9_mark_11 : decode cX9_mark 11 = .ok (.iload_n 1, 1) := by decide +kernel
theorem dX9_mark_12 : decode cX9_mark 12 = .ok (.aaload, 1) := by decide +kernel
theorem dX9_mark_13 : decode cX9_mark 13 = .ok (.iload_n 2, 1) := by decide +kernel
theorem dX9_mark_14 : decode cX9_mark 14 = .ok (.invokevirtual 169, 3) := by decide +kernel
theorem dX9_mark_17 : decode cX9_mark 17 = .ok (.goto 4, 3) := by decide +kernel
theorem dX9_mark_20 : decode cX9_mark 20 = .ok (.iconst 0, 1) := by decide +kernel
theorem dX9_mark_21 : decode cX9_mark 21 = .ok (.ireturn, 1) := by decide +kernel
theorem dX9_field_0 : decode cX9_field 0 = .ok (.iload_n 1, 1) := by decide +kernel
theorem dX9_field_1 : decode cX9_field 1 = .ok (.invokestatic 158, 3) := by decide +kernel
theorem dX9_field_4 : decode cX9_field 4 = .ok (.ifCond .eq 27, 3) := by decide +kernel
theorem dX9_field_7 : decode cX9_field 7 = .ok (.iload_n 2, 1) := by decide +kernel
theorem dX9_field_8 : decode cX9_field 8 = .ok (.ifCond .lt 23, 3) := by decide +kernel
theorem dX9_field_11 : decode cX9_field 11 = .ok (.iload_n 2, 1) := by decide +kernel
theorem dX9_field_12 : decode cX9_field 12 = .ok (.bipush 8, 2) := by decide +kernel
theorem dX9_field_14 : decode cX9_field 14 = .ok (.if_icmp .ge 17, 3) := by decide +kernel
theorem dX9_field_17 : decode cX9_field 17 = .ok (.aload_n 0, 1) := by decide +kernel
theorem dX9_field_18 : decode cX9_field 18 = .ok (.getfield 62, 3) := by decide +kernel
theorem dX9_field_21 : decode cX9_field 21 = .ok (.iload_n 1, 1) := by decide +kernel
theorem dX9_field_22 : decode cX9_field 22 = .ok (.aaload, 1) := by decide +kernel
theorem dX9_field_23 : decode cX9_field 23 = .ok (.getfield 172, 3) := by decide +kernel
theorem dX9_field_26 : decode cX9_field 26 = .ok (.iload_n 2, 1) := by decide +kernel
theorem dX9_field_27 : decode cX9_field 27 = .ok (.iaload, 1) := by decide +kernel
theorem dX9_field_28 : decode cX9_field 28 = .ok (.goto 4, 3) := by decide +kernel
theorem dX9_field_31 : decode cX9_field 31 = .ok (.iconst 0, 1) := by decide +kernel
theorem dX9_field_32 : decode cX9_field 32 = .ok (.ireturn, 1) := by decide +kernel
theorem dX9_record_0 : decode cX9_record 0 = .ok (.iload_n 1, 1) := by decide +kernel
theorem dX9_record_1 : decode cX9_record 1 = .ok (.invokestatic 158, 3) := by decide +kernel
theorem dX9_record_4 : decode cX9_record 4 = .ok (.ifCond .eq 17, 3) := by decide +kernel
theorem dX9_record_7 : decode cX9_record 7 = .ok (.aload_n 0, 1) := by decide +kernel
theorem dX9_record_8 : decode cX9_record 8 = .ok (.getfield 62, 3) := by decide +kernel
theorem dX9_record_11 : decode cX9_record 11 = .ok (.iload_n 1, 1) := by decide +kernel
theorem dX9_record_12 : decode cX9_record 12 = .ok (.aaload, 1) := by decide +kernel
theorem dX9_record_13 : decode cX9_record 13 = .ok (.iload_n 2, 1) := by decide +kernel
theorem dX9_record_14 : decode cX9_record 14 = .ok (.iload_n 3, 1) := by decide +kernel
theorem dX9_record_15 : decode cX9_record 15 = .ok (.invokevirtual 175, 3) := by decide +kernel
theorem dX9_record_18 : decode cX9_record 18 = .ok (.goto 4, 3) := by decide +kernel
theorem dX9_record_21 : decode cX9_record 21 = .ok (.iconst 0, 1) := by decide +kernel
theorem dX9_record_22 : decode cX9_record 22 = .ok (.ireturn, 1) := by decide +kernel
theorem dX9_records_0 : decode cX9_records 0 = .ok (.iload_n 1, 1) := by decide +kernel
theorem dX9_records_1 : decode cX9_records 1 = .ok (.invokestatic 158, 3) := by decide +kernel
theorem dX9_records_4 : decode cX9_records 4 = .ok (.ifCond .eq 16, 3) := by decide +kernel
theorem dX9_records_7 : decode cX9_records 7 = .ok (.aload_n 0, 1) := by decide +kernel
theorem dX9_records_8 : decode cX9_records 8 = .ok (.getfield 62, 3) := by decide +kernel
theorem dX9_records_11 : decode cX9_records 11 = .ok (.iload_n 1, 1) := by decide +kernel
theorem dX9_records_12 : decode cX9_records 12 = .ok (.aaload, 1) := by decide +kernel
theorem dX9_records_13 : decode cX9_records 13 = .ok (.iload_n 2, 1) := by decide +kernel
theorem dX9_records_14 : decode cX9_records 14 = .ok (.invokevirtual 178, 3) := by decide +kernel
theorem dX9_records_17 : decode cX9_records 17 = .ok (.goto 4, 3) := by decide +kernel
theorem dX9_records_20 : decode cX9_records 20 = .ok (.iconst 0, 1) := by decide +kernel
theorem dX9_records_21 : decode cX9_records 21 = .ok (.ireturn, 1) := by decide +kernel
theorem dX9_differ_0 : decode cX9_differ 0 = .ok (.aload_n 0, 1) := by decide +kernel
theorem dX9_differ_1 : decode cX9_differ 1 = .ok (.getfield 62, 3) := by decide +kernel
theorem dX9_differ_4 : decode cX9_differ 4 = .ok (.iconst 1, 1) := by decide +kernel
theorem dX9_differ_5 : decode cX9_differ 5 = .ok (.aaload, 1) := by decide +kernel
theorem dX9_differ_6 : decode cX9_differ 6 = .ok (.astore_n 1, 1) := by decide +kernel
theorem dX9_differ_7 : decode cX9_differ 7 = .ok (.aload_n 0, 1) := by decide +kernel
theorem dX9_differ_8 : decode cX9_differ 8 = .ok (.getfield 62, 3) := by decide +kernel
theorem dX9_differ_11 : decode cX9_differ 11 = .ok (.iconst 2, 1) := by decide +kernel
theorem dX9_differ_12 : decode cX9_differ 12 = .ok (.aaload, 1) := by decide +kernel
theorem dX9_differ_13 : decode cX9_differ 13 = .ok (.astore_n 2, 1) := by decide +kernel
theorem dX9_differ_14 : decode cX9_differ 14 = .ok (.aload_n 1, 1) := by decide +kernel
theorem dX9_differ_15 : decode cX9_differ 15 = .ok (.invokevirtual 181, 3) := by decide +kernel
theorem dX9_differ_18 : decode cX9_differ 18 = .ok (.aload_n 2, 1) := by decide +kernel
theorem dX9_differ_19 : decode cX9_differ 19 = .ok (.invokevirtual 181, 3) := by decide +kernel
theorem dX9_differ_22 : decode cX9_differ 22 = .ok (.invokestatic 184, 3) := by decide +kernel
theorem dX9_differ_25 : decode cX9_differ 25 = .ok (.istore_n 3, 1) := by decide +kernel
theorem dX9_differ_26 : decode cX9_differ 26 = .ok (.iconst 0, 1) := by decide +kernel
theorem dX9_differ_27 : decode cX9_differ 27 = .ok (.istore 4, 2) := by decide +kernel
theorem dX9_differ_29 : decode cX9_differ 29 = .ok (.iload 4, 2) := by decide +kernel
theorem dX9_differ_31 : decode cX9_differ 31 = .ok (.iload_n 3, 1) := by decide +kernel
theorem dX9_differ_32 : decode cX9_differ 32 = .ok (.if_icmp .ge 46, 3) := by decide +kernel
theorem dX9_differ_35 : decode cX9_differ 35 = .ok (.aload_n 1, 1) := by decide +kernel
theorem dX9_differ_36 : decode cX9_differ 36 = .ok (.iload 4, 2) := by decide +kernel
theorem dX9_differ_38 : decode cX9_differ 38 = .ok (.iconst 0, 1) := by decide +kernel
theorem dX9_differ_39 : decode cX9_differ 39 = .ok (.invokevirtual 175, 3) := by decide +kernel
theorem dX9_differ_42 : decode cX9_differ 42 = .ok (.aload_n 2, 1) := by decide +kernel
theorem dX9_differ_43 : decode cX9_differ 43 = .ok (.iload 4, 2) := by decide +kernel
theorem dX9_differ_45 : decode cX9_differ 45 = .ok (.iconst 0, 1) := by decide +kernel
theorem dX9_differ_46 : decode cX9_differ 46 = .ok (.invokevirtual 175, 3) := by decide +kernel
theorem dX9_differ_49 : decode cX9_differ 49 = .ok (.if_icmp .ne 20, 3) := by decide +kernel
theorem dX9_differ_52 : decode cX9_differ 52 = .ok (.aload_n 1, 1) := by decide +kernel
theorem dX9_differ_53 : decode cX9_differ 53 = .ok (.iload 4, 2) := by decide +kernel
theorem dX9_differ_55 : decode cX9_differ 55 = .ok (.iconst 1, 1) := by decide +kernel
theorem dX9_differ_56 : decode cX9_differ 56 = .ok (.invokevirtual 175, 3) := by decide +kernel
theorem dX9_differ_59 : decode cX9_differ 59 = .ok (.aload_n 2, 1) := by decide +kernel
theorem dX9_differ_60 : decode cX9_differ 60 = .ok (.iload 4, 2) := by decide +kernel
theorem dX9_differ_62 : decode cX9_differ 62 = .ok (.iconst 1, 1) := by decide +kernel
theorem dX9_differ_63 : decode cX9_differ 63 = .ok (.invokevirtual 175, 3) := by decide +kernel
theorem dX9_differ_66 : decode cX9_differ 66 = .ok (.if_icmp .eq 6, 3) := by decide +kernel
theorem dX9_differ_69 : decode cX9_differ 69 = .ok (.iload 4, 2) := by decide +kernel
theorem dX9_differ_71 : decode cX9_differ 71 = .ok (.ireturn, 1) := by decide +kernel
theorem dX9_differ_72 : decode cX9_differ 72 = .ok (.iinc 4 1, 3) := by decide +kernel
theorem dX9_differ_75 : decode cX9_differ 75 = .ok (.goto (-46), 3) := by decide +kernel
theorem dX9_differ_78 : decode cX9_differ 78 = .ok (.aload_n 1, 1) := by decide +kernel
theorem dX9_differ_79 : decode cX9_differ 79 = .ok (.invokevirtual 181, 3) := by decide +kernel
theorem dX9_differ_82 : decode cX9_differ 82 = .ok (.aload_n 2, 1) := by decide +kernel
theorem dX9_differ_83 : decode cX9_differ 83 = .ok (.invokevirtual 181, 3) := by decide +kernel
theorem dX9_differ_86 : decode cX9_differ 86 = .ok (.if_icmp .ne 7, 3) := by decide +kernel
theorem dX9_differ_89 : decode cX9_differ 89 = .ok (.iconst (-1), 1) := by decide +kernel
theorem dX9_differ_90 : decode cX9_differ 90 = .ok (.goto 4, 3) := by decide +kernel
theorem dX9_differ_93 : decode cX9_differ 93 = .ok (.iload_n 3, 1) := by decide +kernel
theorem dX9_differ_94 : decode cX9_differ 94 = .ok (.ireturn, 1) := by decide +kernel
theorem dX9_count_0 : decode cX9_count 0 = .ok (.iload_n 1, 1) := by decide +kernel
theorem dX9_count_1 : decode cX9_count 1 = .ok (.tableswitch 54 0 3 #[31, 36, 44, 49], 31) := by decide +kernel
theorem dX9_count_32 : decode cX9_count 32 = .ok (.aload_n 0, 1) := by decide +kernel
theorem dX9_count_33 : decode cX9_count 33 = .ok (.getfield 38, 3) := by decide +kernel
theorem dX9_count_36 : decode cX9_count 36 = .ok (.ireturn, 1) := by decide +kernel
theorem dX9_count_37 : decode cX9_count 37 = .ok (.aload_n 0, 1) := by decide +kernel
theorem dX9_count_38 : decode cX9_count 38 = .ok (.getfield 66, 3) := by decide +kernel
theorem dX9_count_41 : decode cX9_count 41 = .ok (.getfield 147, 3) := by decide +kernel
theorem dX9_count_44 : decode cX9_count 44 = .ok (.ireturn, 1) := by decide +kernel
theorem dX9_count_45 : decode cX9_count 45 = .ok (.aload_n 0, 1) := by decide +kernel
theorem dX9_count_46 : decode cX9_count 46 = .ok (.getfield 34, 3) := by decide +kernel
theorem dX9_count_49 : decode cX9_count 49 = .ok (.ireturn, 1) := by decide +kernel
theorem dX9_count_50 : decode cX9_count 50 = .ok (.aload_n 0, 1) := by decide +kernel
theorem dX9_count_51 : decode cX9_count 51 = .ok (.getfield 44, 3) := by decide +kernel
theorem dX9_count_54 : decode cX9_count 54 = .ok (.ireturn, 1) := by decide +kernel
theorem dX9_count_55 : decode cX9_count 55 = .ok (.bipush (-2), 2) := by decide +kernel
theorem dX9_count_57 : decode cX9_count 57 = .ok (.ireturn, 1) := by decide +kernel
theorem dX9_appendWord_0 : decode cX9_appendWord 0 = .ok (.bipush 24, 2) := by decide +kernel
theorem dX9_appendWord_2 : decode cX9_appendWord 2 = .ok (.istore_n 2, 1) := by decide +kernel
theorem dX9_appendWord_3 : decode cX9_appendWord 3 = .ok (.iload_n 2, 1) := by decide +kernel
theorem dX9_appendWord_4 : decode cX9_appendWord 4 = .ok (.ifCond .lt 52, 3) := by decide +kernel
theorem dX9_appendWord_7 : decode cX9_appendWord 7 = .ok (.aload_n 0, 1) := by decide +kernel
theorem dX9_appendWord_8 : decode cX9_appendWord 8 = .ok (.getfield 34, 3) := by decide +kernel
theorem dX9_appendWord_11 : decode cX9_appendWord 11 = .ok (.ifCond .lt 39, 3) := by decide +kernel
theorem dX9_appendWord_14 : decode cX9_appendWord 14 = .ok (.aload_n 0, 1) := by decide +kernel
theorem dX9_appendWord_15 : decode cX9_appendWord 15 = .ok (.getfield 34, 3) := by decide +kernel
theorem dX9_appendWord_18 : decode cX9_appendWord 18 = .ok (.sipush 600, 3) := by decide +kernel
theorem dX9_appendWord_21 : decode cX9_appendWord 21 = .ok (.if_icmp .ge 29, 3) := by decide +kernel
theorem dX9_appendWord_24 : decode cX9_appendWord 24 = .ok (.aload_n 0, 1) := by decide +kernel
theorem dX9_appendWord_25 : decode cX9_appendWord 25 = .ok (.getfield 9, 3) := by decide +kernel
theorem dX9_appendWord_28 : decode cX9_appendWord 28 = .ok (.aload_n 0, 1) := by decide +kernel
theorem dX9_appendWord_29 : decode cX9_appendWord 29 = .ok (.getfield 34, 3) := by decide +kernel
theorem dX9_appendWord_32 : decode cX9_appendWord 32 = .ok (.iload_n 1, 1) := by decide +kernel
theorem dX9_appendWord_33 : decode cX9_appendWord 33 = .ok (.iload_n 2, 1) := by decide +kernel
theorem dX9_appendWord_34 : decode cX9_appendWord 34 = .ok (.iushr, 1) := by decide +kernel
theorem dX9_appendWord_35 : decode cX9_appendWord 35 = .ok (.sipush 255, 3) := by decide +kernel
theorem dX9_appendWord_38 : decode cX9_appendWord 38 = .ok (.iand, 1) := by decide +kernel
theorem dX9_appendWord_39 : decode cX9_appendWord 39 = .ok (.iastore, 1) := by decide +kernel
theorem dX9_appendWord_40 : decode cX9_appendWord 40 = .ok (.aload_n 0, 1) := by decide +kernel
theorem dX9_appendWord_41 : decode cX9_appendWord 41 = .ok (.dup, 1) := by decide +kernel
theorem dX9_appendWord_42 : decode cX9_appendWord 42 = .ok (.getfield 34, 3) := by decide +kernel
theorem dX9_appendWord_45 : decode cX9_appendWord 45 = .ok (.iconst 1, 1) := by decide +kernel
theorem dX9_appendWord_46 : decode cX9_appendWord 46 = .ok (.iadd, 1) := by decide +kernel
theorem dX9_appendWord_47 : decode cX9_appendWord 47 = .ok (.putfield 34, 3) := by decide +kernel
theorem dX9_appendWord_50 : decode cX9_appendWord 50 = .ok (.iinc 2 (-8), 3) := by decide +kernel
theorem dX9_appendWord_53 : decode cX9_appendWord 53 = .ok (.goto (-50), 3) := by decide +kernel
theorem dX9_appendWord_56 : decode cX9_appendWord 56 = .ok (.return_, 1) := by decide +kernel
theorem dX9_findFault_0 : decode cX9_findFault 0 = .ok (.aload_n 0, 1) := by decide +kernel
theorem dX9_findFault_1 : decode cX9_findFault 1 = .ok (.aload_n 0, 1) := by decide +kernel
theorem dX9_findFault_2 : decode cX9_findFault 2 = .ok (.getfield 16, 3) := by decide +kernel
theorem dX9_findFault_5 : decode cX9_findFault 5 = .ok (.aload_n 0, 1) := by decide +kernel
theorem dX9_findFault_6 : decode cX9_findFault 6 = .ok (.getfield 9, 3) := by decide +kernel
theorem dX9_findFault_9 : decode cX9_findFault 9 = .ok (.iload_n 2, 1) := by decide +kernel
theorem dX9_findFault_10 : decode cX9_findFault 10 = .ok (.aload_n 1, 1) := by decide +kernel
theorem dX9_findFault_11 : decode cX9_findFault 11 = .ok (.invokevirtual 189, 3) := by decide +kernel
theorem dX9_findFault_14 : decode cX9_findFault 14 = .ok (.putfield 41, 3) := by decide +kernel
theorem dX9_findFault_17 : decode cX9_findFault 17 = .ok (.aload_n 0, 1) := by decide +kernel
theorem dX9_findFault_18 : decode cX9_findFault 18 = .ok (.getfield 41, 3) := by decide +kernel
theorem dX9_findFault_21 : decode cX9_findFault 21 = .ok (.iconst (-1), 1) := by decide +kernel
theorem dX9_findFault_22 : decode cX9_findFault 22 = .ok (.if_icmp .eq 5, 3) := by decide +kernel
theorem dX9_findFault_25 : decode cX9_findFault 25 = .ok (.iconst 1, 1) := by decide +kernel
theorem dX9_findFault_26 : decode cX9_findFault 26 = .ok (.ireturn, 1) := by decide +kernel
theorem dX9_findFault_27 : decode cX9_findFault 27 = .ok (.aload_n 0, 1) := by decide +kernel
theorem dX9_findFault_28 : decode cX9_findFault 28 = .ok (.aload_n 1, 1) := by decide +kernel
theorem dX9_findFault_29 : decode cX9_findFault 29 = .ok (.invokevirtual 193, 3) := by decide +kernel
theorem dX9_findFault_32 : decode cX9_findFault 32 = .ok (.putfield 41, 3) := by decide +kernel
theorem dX9_findFault_35 : decode cX9_findFault 35 = .ok (.aload_n 0, 1) := by decide +kernel
theorem dX9_findFault_36 : decode cX9_findFault 36 = .ok (.getfield 41, 3) := by decide +kernel
theorem dX9_findFault_39 : decode cX9_findFault 39 = .ok (.iconst (-1), 1) := by decide +kernel
theorem dX9_findFault_40 : decode cX9_findFault 40 = .ok (.if_icmp .eq 5, 3) := by decide +kernel
theorem dX9_findFault_43 : decode cX9_findFault 43 = .ok (.iconst 2, 1) := by decide +kernel
theorem dX9_findFault_44 : decode cX9_findFault 44 = .ok (.ireturn, 1) := by decide +kernel
theorem dX9_findFault_45 : decode cX9_findFault 45 = .ok (.aload_n 0, 1) := by decide +kernel
theorem dX9_findFault_46 : decode cX9_findFault 46 = .ok (.aload_n 1, 1) := by decide +kernel
theorem dX9_findFault_47 : decode cX9_findFault 47 = .ok (.invokevirtual 196, 3) := by decide +kernel
theorem dX9_findFault_50 : decode cX9_findFault 50 = .ok (.putfield 41, 3) := by decide +kernel
theorem dX9_findFault_53 : decode cX9_findFault 53 = .ok (.aload_n 0, 1) := by decide +kernel
theorem dX9_findFault_54 : decode cX9_findFault 54 = .ok (.getfield 41, 3) := by decide +kernel
theorem dX9_findFault_57 : decode cX9_findFault 57 = .ok (.iconst (-1), 1) := by decide +kernel
theorem dX9_findFault_58 : decode cX9_findFault 58 = .ok (.if_icmp .eq 5, 3) := by decide +kernel
theorem dX9_findFault_61 : decode cX9_findFault 61 = .ok (.iconst 3, 1) := by decide +kernel
theorem dX9_findFault_62 : decode cX9_findFault 62 = .ok (.ireturn, 1) := by decide +kernel
theorem dX9_findFault_63 : decode cX9_findFault 63 = .ok (.aload_n 0, 1) := by decide +kernel
theorem dX9_findFault_64 : decode cX9_findFault 64 = .ok (.getfield 23, 3) := by decide +kernel
theorem dX9_findFault_67 : decode cX9_findFault 67 = .ok (.aload_n 1, 1) := by decide +kernel
theorem dX9_findFault_68 : decode cX9_findFault 68 = .ok (.aload_n 0, 1) := by decide +kernel
theorem dX9_findFault_69 : decode cX9_findFault 69 = .ok (.getfield 58, 3) := by decide +kernel
theorem dX9_findFault_72 : decode cX9_findFault 72 = .ok (.invokevirtual 199, 3) := by decide +kernel
theorem dX9_findFault_75 : decode cX9_findFault 75 = .ok (.ifCond .ne 10, 3) := by decide +kernel
theorem dX9_findFault_78 : decode cX9_findFault 78 = .ok (.aload_n 0, 1) := by decide +kernel
theorem dX9_findFault_79 : decode cX9_findFault 79 = .ok (.iconst 0, 1) := by decide +kernel
theorem dX9_findFault_80 : decode cX9_findFault 80 = .ok (.putfield 41, 3) := by decide +kernel
theorem dX9_findFault_83 : decode cX9_findFault 83 = .ok (.iconst 4, 1) := by decide +kernel
theorem dX9_findFault_84 : decode cX9_findFault 84 = .ok (.ireturn, 1) := by decide +kernel
theorem dX9_findFault_85 : decode cX9_findFault 85 = .ok (.iconst 0, 1) := by decide +kernel
theorem dX9_findFault_86 : decode cX9_findFault 86 = .ok (.ireturn, 1) := by decide +kernel
theorem dX9_isMethod_0 : decode cX9_isMethod 0 = .ok (.iload_n 1, 1) := by decide +kernel
theorem dX9_isMethod_1 : decode cX9_isMethod 1 = .ok (.ifCond .lt 21, 3) := by decide +kernel
theorem dX9_isMethod_4 : decode cX9_isMethod 4 = .ok (.iload_n 1, 1) := by decide +kernel
theorem dX9_isMethod_5 : decode cX9_isMethod 5 = .ok (.aload_n 0, 1) := by decide +kernel
theorem dX9_isMethod_6 : decode cX9_isMethod 6 = .ok (.getfield 38, 3) := by decide +kernel
theorem dX9_isMethod_9 : decode cX9_isMethod 9 = .ok (.if_icmp .ge 13, 3) := by decide +kernel
theorem dX9_isMethod_12 : decode cX9_isMethod 12 = .ok (.iload_n 1, 1) := by decide +kernel
theorem dX9_isMethod_13 : decode cX9_isMethod 13 = .ok (.bipush 6, 2) := by decide +kernel
theorem dX9_isMethod_15 : decode cX9_isMethod 15 = .ok (.if_icmp .ge 7, 3) := by decide +kernel
theorem dX9_isMethod_18 : decode cX9_isMethod 18 = .ok (.iconst 1, 1) := by decide +kernel
theorem dX9_isMethod_19 : decode cX9_isMethod 19 = .ok (.goto 4, 3) := by decide +kernel
theorem dX9_isMethod_22 : decode cX9_isMethod 22 = .ok (.iconst 0, 1) := by decide +kernel
theorem dX9_isMethod_23 : decode cX9_isMethod 23 = .ok (.ireturn, 1) := by decide +kernel
theorem dX9_isManner_0 : decode cX9_isManner 0 = .ok (.iload_n 0, 1) := by decide +kernel
theorem dX9_isManner_1 : decode cX9_isManner 1 = .ok (.ifCond .lt 12, 3) := by decide +kernel
theorem dX9_isManner_4 : decode cX9_isManner 4 = .ok (.iload_n 0, 1) := by decide +kernel
theorem dX9_isManner_5 : decode cX9_isManner 5 = .ok (.iconst 3, 1) := by decide +kernel
theorem dX9_isManner_6 : decode cX9_isManner 6 = .ok (.if_icmp .ge 7, 3) := by decide +kernel
theorem dX9_isManner_9 : decode cX9_isManner 9 = .ok (.iconst 1, 1) := by decide +kernel
theorem dX9_isManner_10 : decode cX9_isManner 10 = .ok (.goto 4, 3) := by decide +kernel
theorem dX9_isManner_13 : decode cX9_isManner 13 = .ok (.iconst 0, 1) := by decide +kernel
theorem dX9_isManner_14 : decode cX9_isManner 14 = .ok (.ireturn, 1) := by decide +kernel
theorem dX9_byteAt_0 : decode cX9_byteAt 0 = .ok (.iload_n 1, 1) := by decide +kernel
theorem dX9_byteAt_1 : decode cX9_byteAt 1 = .ok (.ifCond .lt 15, 3) := by decide +kernel
theorem dX9_byteAt_4 : decode cX9_byteAt 4 = .ok (.iload_n 1, 1) := by decide +kernel
theorem dX9_byteAt_5 : decode cX9_byteAt 5 = .ok (.aload_n 0, 1) := by decide +kernel
theorem dX9_byteAt_6 : decode cX9_byteAt 6 = .ok (.arraylength, 1) := by decide +kernel
theorem dX9_byteAt_7 : decode cX9_byteAt 7 = .ok (.if_icmp .ge 9, 3) := by decide +kernel
theorem dX9_byteAt_10 : decode cX9_byteAt 10 = .ok (.aload_n 0, 1) := by decide +kernel
theorem dX9_byteAt_11 : decode cX9_byteAt 11 = .ok (.iload_n 1, 1) := by decide +kernel
theorem dX9_byteAt_12 : decode cX9_byteAt 12 = .ok (.iaload, 1) := by decide +kernel
theorem dX9_byteAt_13 : decode cX9_byteAt 13 = .ok (.goto 4, 3) := by decide +kernel
theorem dX9_byteAt_16 : decode cX9_byteAt 16 = .ok (.iconst 0, 1) := by decide +kernel
theorem dX9_byteAt_17 : decode cX9_byteAt 17 = .ok (.ireturn, 1) := by decide +kernel
theorem dX9_signedByteAt_0 : decode cX9_signedByteAt 0 = .ok (.iload_n 1, 1) := by decide +kernel
theorem dX9_signedByteAt_1 : decode cX9_signedByteAt 1 = .ok (.ifCond .lt 16, 3) := by decide +kernel
theorem dX9_signedByteAt_4 : decode cX9_signedByteAt 4 = .ok (.iload_n 1, 1) := by decide +kernel
theorem dX9_signedByteAt_5 : decode cX9_signedByteAt 5 = .ok (.aload_n 0, 1) := by decide +kernel
theorem dX9_signedByteAt_6 : decode cX9_signedByteAt 6 = .ok (.arraylength, 1) := by decide +kernel
theorem dX9_signedByteAt_7 : decode cX9_signedByteAt 7 = .ok (.if_icmp .ge 10, 3) := by decide +kernel
theorem dX9_signedByteAt_10 : decode cX9_signedByteAt 10 = .ok (.aload_n 0, 1) := by decide +kernel
theorem dX9_signedByteAt_11 : decode cX9_signedByteAt 11 = .ok (.iload_n 1, 1) := by decide +kernel
theorem dX9_signedByteAt_12 : decode cX9_signedByteAt 12 = .ok (.iaload, 1) := by decide +kernel
theorem dX9_signedByteAt_13 : decode cX9_signedByteAt 13 = .ok (.i2b, 1) := by decide +kernel
theorem dX9_signedByteAt_14 : decode cX9_signedByteAt 14 = .ok (.goto 4, 3) := by decide +kernel
theorem dX9_signedByteAt_17 : decode cX9_signedByteAt 17 = .ok (.iconst 0, 1) := by decide +kernel
theorem dX9_signedByteAt_18 : decode cX9_signedByteAt 18 = .ok (.ireturn, 1) := by decide +kernel
theorem dX9_signedPairAt_0 : decode cX9_signedPairAt 0 = .ok (.iload_n 1, 1) := by decide +kernel
theorem dX9_signedPairAt_1 : decode cX9_signedPairAt 1 = .ok (.ifCond .lt 27, 3) := by decide +kernel
theorem dX9_signedPairAt_4 : decode cX9_signedPairAt 4 = .ok (.iload_n 1, 1) := by decide +kernel
theorem dX9_signedPairAt_5 : decode cX9_signedPairAt 5 = .ok (.aload_n 0, 1) := by decide +kernel
theorem dX9_signedPairAt_6 : decode cX9_signedPairAt 6 = .ok (.arraylength, 1) := by decide +kernel
theorem dX9_signedPairAt_7 : decode cX9_signedPairAt 7 = .ok (.iconst 1, 1) := by decide +kernel
theorem dX9_signedPairAt_8 : decode cX9_signedPairAt 8 = .ok (.isub, 1) := by decide +kernel
theorem dX9_signedPairAt_9 : decode cX9_signedPairAt 9 = .ok (.if_icmp .ge 19, 3) := by decide +kernel
theorem dX9_signedPairAt_12 : decode cX9_signedPairAt 12 = .ok (.aload_n 0, 1) := by decide +kernel
theorem dX9_signedPairAt_13 : decode cX9_signedPairAt 13 = .ok (.iload_n 1, 1) := by decide +kernel
theorem dX9_signedPairAt_14 : decode cX9_signedPairAt 14 = .ok (.iaload, 1) := by decide +kernel
theorem dX9_signedPairAt_15 : decode cX9_signedPairAt 15 = .ok (.bipush 8, 2) := by decide +kernel
theorem dX9_signedPairAt_17 : decode cX9_signedPairAt 17 = .ok (.ishl, 1) := by decide +kernel
theorem dX9_signedPairAt_18 : decode cX9_signedPairAt 18 = .ok (.aload_n 0, 1) := by decide +kernel
theorem dX9_signedPairAt_19 : decode cX9_signedPairAt 19 = .ok (.iload_n 1, 1) := by decide +kernel
theorem dX9_signedPairAt_20 : decode cX9_signedPairAt 20 = .ok (.iconst 1, 1) := by decide +kernel
theorem dX9_signedPairAt_21 : decode cX9_signedPairAt 21 = .ok (.iadd, 1) := by decide +kernel
theorem dX9_signedPairAt_22 : decode cX9_signedPairAt 22 = .ok (.iaload, 1) := by decide +kernel
theorem dX9_signedPairAt_23 : decode cX9_signedPairAt 23 = .ok (.ior, 1) := by decide +kernel
theorem dX9_signedPairAt_24 : decode cX9_signedPairAt 24 = .ok (.i2s, 1) := by decide +kernel
theorem dX9_signedPairAt_25 : decode cX9_signedPairAt 25 = .ok (.goto 4, 3) := by decide +kernel
theorem dX9_signedPairAt_28 : decode cX9_signedPairAt 28 = .ok (.iconst 0, 1) := by decide +kernel
theorem dX9_signedPairAt_29 : decode cX9_signedPairAt 29 = .ok (.ireturn, 1) := by decide +kernel
theorem dX9_wordAt_0 : decode cX9_wordAt 0 = .ok (.aload_n 0, 1) := by decide +kernel
theorem dX9_wordAt_1 : decode cX9_wordAt 1 = .ok (.iload_n 1, 1) := by decide +kernel
theorem dX9_wordAt_2 : decode cX9_wordAt 2 = .ok (.invokestatic 203, 3) := by decide +kernel
theorem dX9_wordAt_5 : decode cX9_wordAt 5 = .ok (.bipush 16, 2) := by decide +kernel
theorem dX9_wordAt_7 : decode cX9_wordAt 7 = .ok (.ishl, 1) := by decide +kernel
theorem dX9_wordAt_8 : decode cX9_wordAt 8 = .ok (.aload_n 0, 1) := by decide +kernel
theorem dX9_wordAt_9 : decode cX9_wordAt 9 = .ok (.iload_n 1, 1) := by decide +kernel
theorem dX9_wordAt_10 : decode cX9_wordAt 10 = .ok (.iconst 2, 1) := by decide +kernel
theorem dX9_wordAt_11 : decode cX9_wordAt 11 = .ok (.iadd, 1) := by decide +kernel
theorem dX9_wordAt_12 : decode cX9_wordAt 12 = .ok (.invokestatic 203, 3) := by decide +kernel
theorem dX9_wordAt_15 : decode cX9_wordAt 15 = .ok (.ldc 206, 2) := by decide +kernel
theorem dX9_wordAt_17 : decode cX9_wordAt 17 = .ok (.iand, 1) := by decide +kernel
theorem dX9_wordAt_18 : decode cX9_wordAt 18 = .ok (.ior, 1) := by decide +kernel
theorem dX9_wordAt_19 : decode cX9_wordAt 19 = .ok (.ireturn, 1) := by decide +kernel
theorem dX9_handlerPart_0 : decode cX9_handlerPart 0 = .ok (.iload_n 1, 1) := by decide +kernel
theorem dX9_handlerPart_1 : decode cX9_handlerPart 1 = .ok (.iconst 4, 1) := by decide +kernel
theorem dX9_handlerPart_2 : decode cX9_handlerPart 2 = .ok (.imul, 1) := by decide +kernel
theorem dX9_handlerPart_3 : decode cX9_handlerPart 3 = .ok (.iload_n 2, 1) := by decide +kernel
theorem dX9_handlerPart_4 : decode cX9_handlerPart 4 = .ok (.iadd, 1) := by decide +kernel
theorem dX9_handlerPart_5 : decode cX9_handlerPart 5 = .ok (.istore_n 3, 1) := by decide +kernel
theorem dX9_handlerPart_6 : decode cX9_handlerPart 6 = .ok (.iload_n 3, 1) := by decide +kernel
theorem dX9_handlerPart_7 : decode cX9_handlerPart 7 = .ok (.ifCond .lt 15, 3) := by decide +kernel
theorem dX9_handlerPart_10 : decode cX9_handlerPart 10 = .ok (.iload_n 3, 1) := by decide +kernel
theorem dX9_handlerPart_11 : decode cX9_handlerPart 11 = .ok (.aload_n 0, 1) := by decide +kernel
theorem dX9_handlerPart_12 : decode cX9_handlerPart 12 = .ok (.arraylength, 1) := by decide +kernel
theorem dX9_handlerPart_13 : decode cX9_handlerPart 13 = .ok (.if_icmp .ge 9, 3) := by decide +kernel
theorem dX9_handlerPart_16 : decode cX9_handlerPart 16 = .ok (.aload_n 0, 1) := by decide +kernel
theorem dX9_handlerPart_17 : decode cX9_handlerPart 17 = .ok (.iload_n 3, 1) := by decide +kernel
theorem dX9_handlerPart_18 : decode cX9_handlerPart 18 = .ok (.iaload, 1) := by decide +kernel
theorem dX9_handlerPart_19 : decode cX9_handlerPart 19 = .ok (.goto 4, 3) := by decide +kernel
theorem dX9_handlerPart_22 : decode cX9_handlerPart 22 = .ok (.iconst (-1), 1) := by decide +kernel
theorem dX9_handlerPart_23 : decode cX9_handlerPart 23 = .ok (.ireturn, 1) := by decide +kernel
theorem dX9_isLongJump_0 : decode cX9_isLongJump 0 = .ok (.iload_n 0, 1) := by decide +kernel
theorem dX9_isLongJump_1 : decode cX9_isLongJump 1 = .ok (.bipush 84, 2) := by decide +kernel
theorem dX9_isLongJump_3 : decode cX9_isLongJump 3 = .ok (.if_icmp .lt 13, 3) := by decide +kernel
theorem dX9_isLongJump_6 : decode cX9_isLongJump 6 = .ok (.iload_n 0, 1) := by decide +kernel
theorem dX9_isLongJump_7 : decode cX9_isLongJump 7 = .ok (.bipush 96, 2) := by decide +kernel
theorem dX9_isLongJump_9 : decode cX9_isLongJump 9 = .ok (.if_icmp .gt 7, 3) := by decide +kernel
theorem dX9_isLongJump_12 : decode cX9_isLongJump 12 = .ok (.iconst 1, 1) := by decide +kernel
theorem dX9_isLongJump_13 : decode cX9_isLongJump 13 = .ok (.goto 4, 3) := by decide +kernel
theorem dX9_isLongJump_16 : decode cX9_isLongJump 16 = .ok (.iconst 0, 1) := by decide +kernel
theorem dX9_isLongJump_17 : decode cX9_isLongJump 17 = .ok (.ireturn, 1) := by decide +kernel
theorem dX9_isShortJump_0 : decode cX9_isShortJump 0 = .ok (.iload_n 0, 1) := by decide +kernel
theorem dX9_isShortJump_1 : decode cX9_isShortJump 1 = .ok (.bipush 20, 2) := by decide +kernel
theorem dX9_isShortJump_3 : decode cX9_isShortJump 3 = .ok (.if_icmp .lt 13, 3) := by decide +kernel
theorem dX9_isShortJump_6 : decode cX9_isShortJump 6 = .ok (.iload_n 0, 1) := by decide +kernel
theorem dX9_isShortJump_7 : decode cX9_isShortJump 7 = .ok (.bipush 32, 2) := by decide +kernel
theorem dX9_isShortJump_9 : decode cX9_isShortJump 9 = .ok (.if_icmp .gt 7, 3) := by decide +kernel
theorem dX9_isShortJump_12 : decode cX9_isShortJump 12 = .ok (.iconst 1, 1) := by decide +kernel
theorem dX9_isShortJump_13 : decode cX9_isShortJump 13 = .ok (.goto 4, 3) := by decide +kernel
theorem dX9_isShortJump_16 : decode cX9_isShortJump 16 = .ok (.iconst 0, 1) := by decide +kernel
theorem dX9_isShortJump_17 : decode cX9_isShortJump 17 = .ok (.ireturn, 1) := by decide +kernel
theorem dX9_shortOf_0 : decode cX9_shortOf 0 = .ok (.iload_n 0, 1) := by decide +kernel
theorem dX9_shortOf_1 : decode cX9_shortOf 1 = .ok (.invokestatic 207, 3) := by decide +kernel
theorem dX9_shortOf_4 : decode cX9_shortOf 4 = .ok (.ifCond .eq 10, 3) := by decide +kernel
theorem dX9_shortOf_7 : decode cX9_shortOf 7 = .ok (.iload_n 0, 1) := by decide +kernel
theorem dX9_shortOf_8 : decode cX9_shortOf 8 = .ok (.bipush 64, 2) := by decide +kernel
theorem dX9_shortOf_10 : decode cX9_shortOf 10 = .ok (.isub, 1) := by decide +kernel
theorem dX9_shortOf_11 : decode cX9_shortOf 11 = .ok (.goto 4, 3) := by decide +kernel
theorem dX9_shortOf_14 : decode cX9_shortOf 14 = .ok (.iload_n 0, 1) := by decide +kernel
theorem dX9_shortOf_15 : decode cX9_shortOf 15 = .ok (.ireturn, 1) := by decide +kernel
theorem dX9_isChoice_0 : decode cX9_isChoice 0 = .ok (.iload_n 0, 1) := by decide +kernel
theorem dX9_isChoice_1 : decode cX9_isChoice 1 = .ok (.invokestatic 210, 3) := by decide +kernel
theorem dX9_isChoice_4 : decode cX9_isChoice 4 = .ok (.istore_n 1, 1) := by decide +kernel
theorem dX9_isChoice_5 : decode cX9_isChoice 5 = .ok (.iload_n 1, 1) := by decide +kernel
theorem dX9_isChoice_6 : decode cX9_isChoice 6 = .ok (.bipush 21, 2) := by decide +kernel
theorem dX9_isChoice_8 : decode cX9_isChoice 8 = .ok (.if_icmp .lt 13, 3) := by decide +kernel
theorem dX9_isChoice_11 : decode cX9_isChoice 11 = .ok (.iload_n 1, 1) := by decide +kernel
theorem dX9_isChoice_12 : decode cX9_isChoice 12 = .ok (.bipush 32, 2) := by decide +kernel
theorem dX9_isChoice_14 : decode cX9_isChoice 14 = .ok (.if_icmp .gt 7, 3) := by decide +kernel
theorem dX9_isChoice_17 : decode cX9_isChoice 17 = .ok (.iconst 1, 1) := by decide +kernel
theorem dX9_isChoice_18 : decode cX9_isChoice 18 = .ok (.goto 4, 3) := by decide +kernel
theorem dX9_isChoice_21 : decode cX9_isChoice 21 = .ok (.iconst 0, 1) := by decide +kernel
theorem dX9_isChoice_22 : decode cX9_isChoice 22 = .ok (.ireturn, 1) := by decide +kernel
theorem dX9_isOp_0 : decode cX9_isOp 0 = .ok (.iload_n 0, 1) := by decide +kernel
theorem dX9_isOp_1 : decode cX9_isOp 1 = .ok (.ifCond .lt 11, 3) := by decide +kernel
theorem dX9_isOp_4 : decode cX9_isOp 4 = .ok (.iload_n 0, 1) := by decide +kernel
theorem dX9_isOp_5 : decode cX9_isOp 5 = .ok (.getstatic 213, 3) := by decide +kernel
theorem dX9_isOp_8 : decode cX9_isOp 8 = .ok (.arraylength, 1) := by decide +kernel
theorem dX9_isOp_9 : decode cX9_isOp 9 = .ok (.if_icmp .lt 10, 3) := by decide +kernel
theorem dX9_isOp_12 : decode cX9_isOp 12 = .ok (.iload_n 0, 1) := by decide +kernel
theorem dX9_isOp_13 : decode cX9_isOp 13 = .ok (.invokestatic 207, 3) := by decide +kernel
theorem dX9_isOp_16 : decode cX9_isOp 16 = .ok (.ifCond .eq 7, 3) := by decide +kernel
theorem dX9_isOp_19 : decode cX9_isOp 19 = .ok (.iconst 1, 1) := by decide +kernel
theorem dX9_isOp_20 : decode cX9_isOp 20 = .ok (.goto 4, 3) := by decide +kernel
theorem dX9_isOp_23 : decode cX9_isOp 23 = .ok (.iconst 0, 1) := by decide +kernel
theorem dX9_isOp_24 : decode cX9_isOp 24 = .ok (.ireturn, 1) := by decide +kernel
theorem dX9_fixedSize_0 : decode cX9_fixedSize 0 = .ok (.iload_n 0, 1) := by decide +kernel
theorem dX9_fixedSize_1 : decode cX9_fixedSize 1 = .ok (.invokestatic 207, 3) := by decide +kernel
theorem dX9_fixedSize_4 : decode cX9_fixedSize 4 = .ok (.ifCond .eq 5, 3) := by decide +kernel
theorem dX9_fixedSize_7 : decode cX9_fixedSize 7 = .ok (.iconst 3, 1) := by decide +kernel
theorem dX9_fixedSize_8 : decode cX9_fixedSize 8 = .ok (.ireturn, 1) := by decide +kernel
theorem dX9_fixedSize_9 : decode cX9_fixedSize 9 = .ok (.iload_n 0, 1) := by decide +kernel
theorem dX9_fixedSize_10 : decode cX9_fixedSize 10 = .ok (.ifCond .lt 19, 3) := by decide +kernel
theorem dX9_fixedSize_13 : decode cX9_fixedSize 13 = .ok (.iload_n 0, 1) := by decide +kernel
theorem dX9_fixedSize_14 : decode cX9_fixedSize 14 = .ok (.getstatic 213, 3) := by decide +kernel
theorem dX9_fixedSize_17 : decode cX9_fixedSize 17 = .ok (.arraylength, 1) := by decide +kernel
theorem dX9_fixedSize_18 : decode cX9_fixedSize 18 = .ok (.if_icmp .ge 11, 3) := by decide +kernel
theorem dX9_fixedSize_21 : decode cX9_fixedSize 21 = .ok (.getstatic 213, 3) := by decide +kernel
theorem dX9_fixedSize_24 : decode cX9_fixedSize 24 = .ok (.iload_n 0, 1) := by decide +kernel
theorem dX9_fixedSize_25 : decode cX9_fixedSize 25 = .ok (.iaload, 1) := by decide +kernel
theorem dX9_fixedSize_26 : decode cX9_fixedSize 26 = .ok (.goto 4, 3) := by decide +kernel
theorem dX9_fixedSize_29 : decode cX9_fixedSize 29 = .ok (.iconst 0, 1) := by decide +kernel
theorem dX9_fixedSize_30 : decode cX9_fixedSize 30 = .ok (.ireturn, 1) := by decide +kernel
theorem dX9_tableSize_0 : decode cX9_tableSize 0 = .ok (.iconst 4, 1) := by decide +kernel
theorem dX9_tableSize_1 : decode cX9_tableSize 1 = .ok (.iconst 2, 1) := by decide +kernel
theorem dX9_tableSize_2 : decode cX9_tableSize 2 = .ok (.iload_n 0, 1) := by decide +kernel
theorem dX9_tableSize_3 : decode cX9_tableSize 3 = .ok (.imul, 1) := by decide +kernel
theorem dX9_tableSize_4 : decode cX9_tableSize 4 = .ok (.iadd, 1) := by decide +kernel
theorem dX9_tableSize_5 : decode cX9_tableSize 5 = .ok (.ireturn, 1) := by decide +kernel
theorem dX9_sizeAt_0 : decode cX9_sizeAt 0 = .ok (.aload_n 0, 1) := by decide +kernel
theorem dX9_sizeAt_1 : decode cX9_sizeAt 1 = .ok (.iload_n 1, 1) := by decide +kernel
theorem dX9_sizeAt_2 : decode cX9_sizeAt 2 = .ok (.invokestatic 107, 3) := by decide +kernel
theorem dX9_sizeAt_5 : decode cX9_sizeAt 5 = .ok (.istore_n 2, 1) := by decide +kernel
theorem dX9_sizeAt_6 : decode cX9_sizeAt 6 = .ok (.iload_n 2, 1) := by decide +kernel
theorem dX9_sizeAt_7 : decode cX9_sizeAt 7 = .ok (.bipush 33, 2) := by decide +kernel
theorem dX9_sizeAt_9 : decode cX9_sizeAt 9 = .ok (.if_icmp .ne 16, 3) := by decide +kernel
theorem dX9_sizeAt_12 : decode cX9_sizeAt 12 = .ok (.aload_n 0, 1) := by decide +kernel
theorem dX9_sizeAt_13 : decode cX9_sizeAt 13 = .ok (.iload_n 1, 1) := by decide +kernel
theorem dX9_sizeAt_14 : decode cX9_sizeAt 14 = .ok (.iconst 1, 1) := by decide +kernel
theorem dX9_sizeAt_15 : decode cX9_sizeAt 15 = .ok (.iadd, 1) := by decide +kernel
theorem dX9_sizeAt_16 : decode cX9_sizeAt 16 = .ok (.invokestatic 107, 3) := by decide +kernel
theorem dX9_sizeAt_19 : decode cX9_sizeAt 19 = .ok (.invokestatic 216, 3) := by decide +kernel
theorem dX9_sizeAt_22 : decode cX9_sizeAt 22 = .ok (.goto 7, 3) := by decide +kernel
theorem dX9_sizeAt_25 : decode cX9_sizeAt 25 = .ok (.iload_n 2, 1) := by decide +kernel
theorem dX9_sizeAt_26 : decode cX9_sizeAt 26 = .ok (.invokestatic 219, 3) := by decide +kernel
theorem dX9_sizeAt_29 : decode cX9_sizeAt 29 = .ok (.ireturn, 1) := by decide +kernel
theorem dX9_targetCount_0 : decode cX9_targetCount 0 = .ok (.aload_n 0, 1) := by decide +kernel
theorem dX9_targetCount_1 : decode cX9_targetCount 1 = .ok (.iload_n 1, 1) := by decide +kernel
theorem dX9_targetCount_2 : decode cX9_targetCount 2 = .ok (.invokestatic 107, 3) := by decide +kernel
theorem dX9_targetCount_5 : decode cX9_targetCount 5 = .ok (.istore_n 2, 1) := by decide +kernel
theorem dX9_targetCount_6 : decode cX9_targetCount 6 = .ok (.iload_n 2, 1) := by decide +kernel
theorem dX9_targetCount_7 : decode cX9_targetCount 7 = .ok (.bipush 33, 2) := by decide +kernel
theorem dX9_targetCount_9 : decode cX9_targetCount 9 = .ok (.if_icmp .ne 13, 3) := by decide +kernel
theorem dX9_targetCount_12 : decode cX9_targetCount 12 = .ok (.aload_n 0, 1) := by decide +kernel
theorem dX9_targetCount_13 : decode cX9_targetCount 13 = .ok (.iload_n 1, 1) := by decide +kernel
theorem dX9_targetCount_14 : decode cX9_targetCount 14 = .ok (.iconst 1, 1) := by decide +kernel
theorem dX9_targetCount_15 : decode cX9_targetCount 15 = .ok (.iadd, 1) := by decide +kernel
theorem dX9_targetCount_16 : decode cX9_targetCount 16 = .ok (.invokestatic 107, 3) := by decide +kernel
theorem dX9_targetCount_19 : decode cX9_targetCount 19 = .ok (.iconst 1, 1) := by decide +kernel
theorem dX9_targetCount_20 : decode cX9_targetCount 20 = .ok (.iadd, 1) := by decide +kernel
theorem dX9_targetCount_21 : decode cX9_targetCount 21 = .ok (.ireturn, 1) := by decide +kernel
theorem dX9_targetCount_22 : decode cX9_targetCount 22 = .ok (.iload_n 2, 1) := by decide +kernel
theorem dX9_targetCount_23 : decode cX9_targetCount 23 = .ok (.invokestatic 222, 3) := by decide +kernel
theorem dX9_targetCount_26 : decode cX9_targetCount 26 = .ok (.ifCond .ne 10, 3) := by decide +kernel
theorem dX9_targetCount_29 : decode cX9_targetCount 29 = .ok (.iload_n 2, 1) := by decide +kernel
theorem dX9_targetCount_30 : decode cX9_targetCount 30 = .ok (.invokestatic 207, 3) := by decide +kernel
theorem dX9_targetCount_33 : decode cX9_targetCount 33 = .ok (.ifCond .eq 7, 3) := by decide +kernel
theorem dX9_targetCount_36 : decode cX9_targetCount 36 = .ok (.iconst 1, 1) := by decide +kernel
theorem dX9_targetCount_37 : decode cX9_targetCount 37 = .ok (.goto 4, 3) := by decide +kernel
theorem dX9_targetCount_40 : decode cX9_targetCount 40 = .ok (.iconst 0, 1) := by decide +kernel
theorem dX9_targetCount_41 : decode cX9_targetCount 41 = .ok (.ireturn, 1) := by decide +kernel
theorem dX9_targetAt_0 : decode cX9_targetAt 0 = .ok (.aload_n 0, 1) := by decide +kernel
theorem dX9_targetAt_1 : decode cX9_targetAt 1 = .ok (.iload_n 1, 1) := by decide +kernel
theorem dX9_targetAt_2 : decode cX9_targetAt 2 = .ok (.invokestatic 107, 3) := by decide +kernel
theorem dX9_targetAt_5 : decode cX9_targetAt 5 = .ok (.istore_n 3, 1) := by decide +kernel
theorem dX9_targetAt_6 : decode cX9_targetAt 6 = .ok (.iload_n 3, 1) := by decide +kernel
theorem dX9_targetAt_7 : decode cX9_targetAt 7 = .ok (.bipush 33, 2) := by decide +kernel
theorem dX9_targetAt_9 : decode cX9_targetAt 9 = .ok (.if_icmp .ne 17, 3) := by decide +kernel
theorem dX9_targetAt_12 : decode cX9_targetAt 12 = .ok (.iload_n 1, 1) := by decide +kernel
theorem dX9_targetAt_13 : decode cX9_targetAt 13 = .ok (.aload_n 0, 1) := by decide +kernel
theorem dX9_targetAt_14 : decode cX9_targetAt 14 = .ok (.iload_n 1, 1) := by decide +kernel
theorem dX9_targetAt_15 : decode cX9_targetAt 15 = .ok (.iconst 2, 1) := by decide +kernel
theorem dX9_targetAt_16 : decode cX9_targetAt 16 = .ok (.iadd, 1) := by decide +kernel
theorem dX9_targetAt_17 : decode cX9_targetAt 17 = .ok (.iconst 2, 1) := by decide +kernel
theorem dX9_targetAt_18 : decode cX9_targetAt 18 = .ok (.iload_n 2, 1) := by decide +kernel
theorem dX9_targetAt_19 : decode cX9_targetAt 19 = .ok (.imul, 1) := by decide +kernel
theorem dX9_targetAt_20 : decode cX9_targetAt 20 = .ok (.iadd, 1) := by decide +kernel
theorem dX9_targetAt_21 : decode cX9_targetAt 21 = .ok (.invokestatic 203, 3) := by decide +kernel
theorem dX9_targetAt_24 : decode cX9_targetAt 24 = .ok (.iadd, 1) := by decide +kernel
theorem dX9_targetAt_25 : decode cX9_targetAt 25 = .ok (.ireturn, 1) := by decide +kernel
theorem dX9_targetAt_26 : decode cX9_targetAt 26 = .ok (.iload_n 1, 1) := by decide +kernel
theorem dX9_targetAt_27 : decode cX9_targetAt 27 = .ok (.iload_n 3, 1) := by decide +kernel
theorem dX9_targetAt_28 : decode cX9_targetAt 28 = .ok (.invokestatic 207, 3) := by decide +kernel
theorem dX9_targetAt_31 : decode cX9_targetAt 31 = .ok (.ifCond .eq 13, 3) := by decide +kernel
theorem dX9_targetAt_34 : decode cX9_targetAt 34 = .ok (.aload_n 0, 1) := by decide +kernel
theorem dX9_targetAt_35 : decode cX9_targetAt 35 = .ok (.iload_n 1, 1) := by decide +kernel
theorem dX9_targetAt_36 : decode cX9_targetAt 36 = .ok (.iconst 1, 1) := by decide +kernel
theorem dX9_targetAt_37 : decode cX9_targetAt 37 = .ok (.iadd, 1) := by decide +kernel
theorem dX9_targetAt_38 : decode cX9_targetAt 38 = .ok (.invokestatic 203, 3) := by decide +kernel
theorem dX9_targetAt_41 : decode cX9_targetAt 41 = .ok (.goto 10, 3) := by decide +kernel
theorem dX9_targetAt_44 : decode cX9_targetAt 44 = .ok (.aload_n 0, 1) := by decide +kernel
theorem dX9_targetAt_45 : decode cX9_targetAt 45 = .ok (.iload_n 1, 1) := by decide +kernel
theorem dX9_targetAt_46 : decode cX9_targetAt 46 = .ok (.iconst 1, 1) := by decide +kernel
theorem dX9_targetAt_47 : decode cX9_targetAt 47 = .ok (.iadd, 1) := by decide +kernel
theorem dX9_targetAt_48 : decode cX9_targetAt 48 = .ok (.invokestatic 225, 3) := by decide +kernel
theorem dX9_targetAt_51 : decode cX9_targetAt 51 = .ok (.iadd, 1) := by decide +kernel
theorem dX9_targetAt_52 : decode cX9_targetAt 52 = .ok (.ireturn, 1) := by decide +kernel
theorem dX9_goesOn_0 : decode cX9_goesOn 0 = .ok (.iload_n 0, 1) := by decide +kernel
theorem dX9_goesOn_1 : decode cX9_goesOn 1 = .ok (.bipush 20, 2) := by decide +kernel
theorem dX9_goesOn_3 : decode cX9_goesOn 3 = .ok (.if_icmp .eq 31, 3) := by decide +kernel
theorem dX9_goesOn_6 : decode cX9_goesOn 6 = .ok (.iload_n 0, 1) := by decide +kernel
theorem dX9_goesOn_7 : decode cX9_goesOn 7 = .ok (.bipush 84, 2) := by decide +kernel
theorem dX9_goesOn_9 : decode cX9_goesOn 9 = .ok (.if_icmp .eq 25, 3) := by decide +kernel
theorem dX9_goesOn_12 : decode cX9_goesOn 12 = .ok (.iload_n 0, 1) := by decide +kernel
theorem dX9_goesOn_13 : decode cX9_goesOn 13 = .ok (.bipush 33, 2) := by decide +kernel
theorem dX9_goesOn_15 : decode cX9_goesOn 15 = .ok (.if_icmp .eq 19, 3) := by decide +kernel
theorem dX9_goesOn_18 : decode cX9_goesOn 18 = .ok (.iload_n 0, 1) := by decide +kernel
theorem dX9_goesOn_19 : decode cX9_goesOn 19 = .ok (.bipush 41, 2) := by decide +kernel
theorem dX9_goesOn_21 : decode cX9_goesOn 21 = .ok (.if_icmp .eq 13, 3) := by decide +kernel
theorem dX9_goesOn_24 : decode cX9_goesOn 24 = .ok (.iload_n 0, 1) := by decide +kernel
theorem dX9_goesOn_25 : decode cX9_goesOn 25 = .ok (.bipush 42, 2) := by decide +kernel
theorem dX9_goesOn_27 : decode cX9_goesOn 27 = .ok (.if_icmp .eq 7, 3) := by decide +kernel
theorem dX9_goesOn_30 : decode cX9_goesOn 30 = .ok (.iconst 1, 1) := by decide +kernel
theorem dX9_goesOn_31 : decode cX9_goesOn 31 = .ok (.goto 4, 3) := by decide +kernel
theorem dX9_goesOn_34 : decode cX9_goesOn 34 = .ok (.iconst 0, 1) := by decide +kernel
theorem dX9_goesOn_35 : decode cX9_goesOn 35 = .ok (.ireturn, 1) := by decide +kernel
theorem dX9_isReplaceable_0 : decode cX9_isReplaceable 0 = .ok (.iload_n 0, 1) := by decide +kernel
theorem dX9_isReplaceable_1 : decode cX9_isReplaceable 1 = .ok (.iconst 1, 1) := by decide +kernel
theorem dX9_isReplaceable_2 : decode cX9_isReplaceable 2 = .ok (.if_icmp .eq 44, 3) := by decide +kernel
theorem dX9_isReplaceable_5 : decode cX9_isReplaceable 5 = .ok (.iload_n 0, 1) := by decide +kernel
theorem dX9_isReplaceable_6 : decode cX9_isReplaceable 6 = .ok (.iconst 2, 1) := by decide +kernel
theorem dX9_isReplaceable_7 : decode cX9_isReplaceable 7 = .ok (.if_icmp .eq 39, 3) := by decide +kernel
theorem dX9_isReplaceable_10 : decode cX9_isReplaceable 10 = .ok (.iload_n 0, 1) := by decide +kernel
theorem dX9_isReplaceable_11 : decode cX9_isReplaceable 11 = .ok (.bipush 9, 2) := by decide +kernel
theorem dX9_isReplaceable_13 : decode cX9_isReplaceable 13 = .ok (.if_icmp .lt 9, 3) := by decide +kernel
theorem dX9_isReplaceable_16 : decode cX9_isReplaceable 16 = .ok (.iload_n 0, 1) := by decide +kernel
theorem dX9_isReplaceable_17 : decode cX9_isReplaceable 17 = .ok (.bipush 19, 2) := by decide +kernel
theorem dX9_isReplaceable_19 : decode cX9_isReplaceable 19 = .ok (.if_icmp .le 27, 3) := by decide +kernel
theorem dX9_isReplaceable_22 : decode cX9_isReplaceable 22 = .ok (.iload_n 0, 1) := by decide +kernel
theorem dX9_isReplaceable_23 : decode cX9_isReplaceable 23 = .ok (.bipush 34, 2) := by decide +kernel
theorem dX9_isReplaceable_25 : decode cX9_isReplaceable 25 = .ok (.if_icmp .eq 21, 3) := by decide +kernel
theorem dX9_isReplaceable_28 : decode cX9_isReplaceable 28 = .ok (.iload_n 0, 1) := by decide +kernel
theorem dX9_isReplaceable_29 : decode cX9_isReplaceable 29 = .ok (.bipush 37, 2) := by decide +kernel
theorem dX9_isReplaceable_31 : decode cX9_isReplaceable 31 = .ok (.if_icmp .eq 15, 3) := by decide +kernel
theorem dX9_isReplaceable_34 : decode cX9_isReplaceable 34 = .ok (.iload_n 0, 1) := by decide +kernel
theorem dX9_isReplaceable_35 : decode cX9_isReplaceable 35 = .ok (.bipush 38, 2) := by decide +kernel
theorem dX9_isReplaceable_37 : decode cX9_isReplaceable 37 = .ok (.if_icmp .eq 9, 3) := by decide +kernel
theorem dX9_isReplaceable_40 : decode cX9_isReplaceable 40 = .ok (.iload_n 0, 1) := by decide +kernel
theorem dX9_isReplaceable_41 : decode cX9_isReplaceable 41 = .ok (.bipush 40, 2) := by decide +kernel
theorem dX9_isReplaceable_43 : decode cX9_isReplaceable 43 = .ok (.if_icmp .ne 7, 3) := by decide +kernel
theorem dX9_isReplaceable_46 : decode cX9_isReplaceable 46 = .ok (.iconst 1, 1) := by decide +kernel
theorem dX9_isReplaceable_47 : decode cX9_isReplaceable 47 = .ok (.goto 4, 3) := by decide +kernel
theorem dX9_isReplaceable_50 : decode cX9_isReplaceable 50 = .ok (.iconst 0, 1) := by decide +kernel
theorem dX9_isReplaceable_51 : decode cX9_isReplaceable 51 = .ok (.ireturn, 1) := by decide +kernel
theorem dX10_init_0 : decode cX10_init 0 = .ok (.aload_n 0, 1) := by decide +kernel
theorem dX10_init_1 : decode cX10_init 1 = .ok (.invokespecial 1, 3) := by decide +kernel
theorem dX10_init_4 : decode cX10_init 4 = .ok (.aload_n 0, 1) := by decide +kernel
theorem dX10_init_5 : decode cX10_init 5 = .ok (.sipush 600, 3) := by decide +kernel
theorem dX10_init_8 : decode cX10_init 8 = .ok (.newarray .int, 2) := by decide +kernel
theorem dX10_init_10 : decode cX10_init 10 = .ok (.putfield 7, 3) := by decide +kernel
theorem dX10_init_13 : decode cX10_init 13 = .ok (.aload_n 0, 1) := by decide +kernel
theorem dX10_init_14 : decode cX10_init 14 = .ok (.iconst (-1), 1) := by decide +kernel
theorem dX10_init_15 : decode cX10_init 15 = .ok (.putfield 13, 3) := by decide +kernel
theorem dX10_init_18 : decode cX10_init 18 = .ok (.aload_n 0, 1) := by decide +kernel
theorem dX10_init_19 : decode cX10_init 19 = .ok (.bipush 6, 2) := by decide +kernel
theorem dX10_init_21 : decode cX10_init 21 = .ok (.newarray .int, 2) := by decide +kernel
theorem dX10_init_23 : decode cX10_init 23 = .ok (.putfield 17, 3) := by decide +kernel
theorem dX10_init_26 : decode cX10_init 26 = .ok (.aload_n 0, 1) := by decide +kernel
theorem dX10_init_27 : decode cX10_init 27 = .ok (.bipush 6, 2) := by decide +kernel
theorem dX10_init_29 : decode cX10_init 29 = .ok (.newarray .int, 2) := by decide +kernel
theorem dX10_init_31 : decode cX10_init 31 = .ok (.putfield 20, 3) := by decide +kernel
theorem dX10_init_34 : decode cX10_init 34 = .ok (.aload_n 0, 1) := by decide +kernel
theorem dX10_init_35 : decode cX10_init 35 = .ok (.bipush 6, 2) := by decide +kernel
theorem dX10_init_37 : decode cX10_init 37 = .ok (.newarray .int, 2) := by decide +kernel
theorem dX10_init_39 : decode cX10_init 39 = .ok (.putfield 23, 3) := by decide +kernel
theorem dX10_init_42 : decode cX10_init 42 = .ok (.aload_n 0, 1) := by decide +kernel
theorem dX10_init_43 : decode cX10_init 43 = .ok (.sipush 2400, 3) := by decide +kernel
theorem dX10_init_46 : decode cX10_init 46 = .ok (.newarray .int, 2) := by decide +kernel
theorem dX10_init_48 : decode cX10_init 48 = .ok (.putfield 26, 3) := by decide +kernel
theorem dX10_init_51 : decode cX10_init 51 = .ok (.aload_n 0, 1) := by decide +kernel
theorem dX10_init_52 : decode cX10_init 52 = .ok (.bipush 6, 2) := by decide +kernel
theorem dX10_init_54 : decode cX10_init 54 = .ok (.newarray .int, 2) := by decide +kernel
theorem dX10_init_56 : decode cX10_init 56 = .ok (.putfield 29, 3) := by decide +kernel
theorem dX10_init_59 : decode cX10_init 59 = .ok (.aload_n 0, 1) := by decide +kernel
theorem dX10_init_60 : decode cX10_init 60 = .ok (.bipush 48, 2) := by decide +kernel
theorem dX10_init_62 : decode cX10_init 62 = .ok (.newarray .int, 2) := by decide +kernel
theorem dX10_init_64 : decode cX10_init 64 = .ok (.putfield 32, 3) := by decide +kernel
theorem dX10_init_67 : decode cX10_init 67 = .ok (.aload_n 0, 1) := by decide +kernel
theorem dX10_init_68 : decode cX10_init 68 = .ok (.bipush 48, 2) := by decide +kernel
theorem dX10_init_70 : decode cX10_init 70 = .ok (.newarray .int, 2) := by decide +kernel
theorem dX10_init_72 : decode cX10_init 72 = .ok (.putfield 35, 3) := by decide +kernel
theorem dX10_init_75 : decode cX10_init 75 = .ok (.aload_n 0, 1) := by decide +kernel
theorem dX10_init_76 : decode cX10_init 76 = .ok (.bipush 48, 2) := by decide +kernel
theorem dX10_init_78 : decode cX10_init 78 = .ok (.newarray .int, 2) := by decide +kernel
theorem dX10_init_80 : decode cX10_init 80 = .ok (.putfield 38, 3) := by decide +kernel
theorem dX10_init_83 : decode cX10_init 83 = .ok (.aload_n 0, 1) := by decide +kernel
theorem dX10_init_84 : decode cX10_init 84 = .ok (.bipush 48, 2) := by decide +kernel
theorem dX10_init_86 : decode cX10_init 86 = .ok (.newarray .int, 2) := by decide +kernel
theorem dX10_init_88 : decode cX10_init 88 = .ok (.putfield 41, 3) := by decide +kernel
theorem dX10_init_91 : decode cX10_init 91 = .ok (.aload_n 0, 1) := by decide +kernel
theorem dX10_init_92 : decode cX10_init 92 = .ok (.sipush 2400, 3) := by decide +kernel
theorem dX10_init_95 : decode cX10_init 95 = .ok (.newarray .boolean, 2) := by decide +kernel
theorem dX10_init_97 : decode cX10_init 97 = .ok (.putfield 44, 3) := by decide +kernel
theorem dX10_init_100 : decode cX10_init 100 = .ok (.aload_n 0, 1) := by decide +kernel
theorem dX10_init_101 : decode cX10_init 101 = .ok (.sipush 2400, 3) := by decide +kernel
theorem dX10_init_104 : decode cX10_init 104 = .ok (.newarray .int, 2) := by decide +kernel
theorem dX10_init_106 : decode cX10_init 106 = .ok (.putfield 48, 3) := by decide +kernel
theorem dX10_init_109 : decode cX10_init 109 = .ok (.aload_n 0, 1) := by decide +kernel
theorem dX10_init_110 : decode cX10_init 110 = .ok (.sipush 28800, 3) := by decide +kernel
theorem dX10_init_113 : decode cX10_init 113 = .ok (.newarray .int, 2) := by decide +kernel
theorem dX10_init_115 : decode cX10_init 115 = .ok (.putfield 51, 3) := by decide +kernel
theorem dX10_init_118 : decode cX10_init 118 = .ok (.aload_n 0, 1) := by decide +kernel
theorem dX10_init_119 : decode cX10_init 119 = .ok (.sipush 24000, 3) := by decide +kernel
theorem dX10_init_122 : decode cX10_init 122 = .ok (.newarray .int, 2) := by decide +kernel
theorem dX10_init_124 : decode cX10_init 124 = .ok (.putfield 54, 3) := by decide +kernel
theorem dX10_init_127 : decode cX10_init 127 = .ok (.aload_n 0, 1) := by decide +kernel
theorem dX10_init_128 : decode cX10_init 128 = .ok (.bipush 24, 2) := by decide +kernel
theorem dX10_init_130 : decode cX10_init 130 = .ok (.newarray .int, 2) := by decide +kernel
theorem dX10_init_132 : decode cX10_init 132 = .ok (.putfield 57, 3) := by decide +kernel
theorem dX10_init_135 : decode cX10_init 135 = .ok (.aload_n 0, 1) := by decide +kernel
theorem dX10_init_136 : decode cX10_init 136 = .ok (.bipush 24, 2) := by decide +kernel
theorem dX10_init_138 : decode cX10_init 138 = .ok (.newarray .int, 2) := by decide +kernel
theorem dX10_init_140 : decode cX10_init 140 = .ok (.putfield 60, 3) := by decide +kernel
theorem dX10_init_143 : decode cX10_init 143 = .ok (.aload_n 0, 1) := by decide +kernel
theorem dX10_init_144 : decode cX10_init 144 = .ok (.bipush 24, 2) := by decide +kernel
theorem dX10_init_146 : decode cX10_init 146 = .ok (.newarray .int, 2) := by decide +kernel
theorem dX10_init_148 : decode cX10_init 148 = .ok (.putfield 63, 3) := by decide +kernel
theorem dX10_init_151 : decode cX10_init 151 = .ok (.aload_n 0, 1) := by decide +kernel
theorem dX10_init_152 : decode cX10_init 152 = .ok (.bipush 24, 2) := by decide +kernel
theorem dX10_init_154 : decode cX10_init 154 = .ok (.newarray .int, 2) := by decide +kernel
theorem dX10_init_156 : decode cX10_init 156 = .ok (.putfield 66, 3) := by decide +kernel
theorem dX10_init_159 : decode cX10_init 159 = .ok (.aload_n 0, 1) := by decide +kernel
theorem dX10_init_160 : decode cX10_init 160 = .ok (.bipush 24, 2) := by decide +kernel
theorem dX10_init_162 : decode cX10_init 162 = .ok (.newarray .int, 2) := by decide +kernel
theorem dX10_init_164 : decode cX10_init 164 = .ok (.putfield 69, 3) := by decide +kernel
theorem dX10_init_167 : decode cX10_init 167 = .ok (.aload_n 0, 1) := by decide +kernel
theorem dX10_init_168 : decode cX10_init 168 = .ok (.bipush 6, 2) := by decide +kernel
theorem dX10_init_170 : decode cX10_init 170 = .ok (.newarray .int, 2) := by decide +kernel
theorem dX10_init_172 : decode cX10_init 172 = .ok (.putfield 72, 3) := by decide +kernel
theorem dX10_init_175 : decode cX10_init 175 = .ok (.aload_n 0, 1) := by decide +kernel
theorem dX10_init_176 : decode cX10_init 176 = .ok (.sipush 6000, 3) := by decide +kernel
theorem dX10_init_179 : decode cX10_init 179 = .ok (.newarray .int, 2) := by decide +kernel
theorem dX10_init_181 : decode cX10_init 181 = .ok (.putfield 75, 3) := by decide +kernel
theorem dX10_init_184 : decode cX10_init 184 = .ok (.aload_n 0, 1) := by decide +kernel
theorem dX10_init_185 : decode cX10_init 185 = .ok (.bipush 6, 2) := by decide +kernel
theorem dX10_init_187 : decode cX10_init 187 = .ok (.newarray .int, 2) := by decide +kernel
theorem dX10_init_189 : decode cX10_init 189 = .ok (.putfield 78, 3) := by decide +kernel
theorem dX10_init_192 : decode cX10_init 192 = .ok (.aload_n 0, 1) := by decide +kernel
theorem dX10_init_193 : decode cX10_init 193 = .ok (.sipush 6000, 3) := by decide +kernel
theorem dX10_init_196 : decode cX10_init 196 = .ok (.newarray .int, 2) := by decide +kernel
theorem dX10_init_198 : decode cX10_init 198 = .ok (.putfield 81, 3) := by decide +kernel
theorem dX10_init_201 : decode cX10_init 201 = .ok (.aload_n 0, 1) := by decide +kernel
theorem dX10_init_202 : decode cX10_init 202 = .ok (.bipush 6, 2) := by decide +kernel
theorem dX10_init_204 : decode cX10_init 204 = .ok (.newarray .int, 2) := by decide +kernel
theorem dX10_init_206 : decode cX10_init 206 = .ok (.putfield 84, 3) := by decide +kernel
theorem dX10_init_209 : decode cX10_init 209 = .ok (.aload_n 0, 1) := by decide +kernel
theorem dX10_init_210 : decode cX10_init 210 = .ok (.bipush 54, 2) := by decide +kernel
theorem dX10_init_212 : decode cX10_init 212 = .ok (.newarray .int, 2) := by decide +kernel
theorem dX10_init_214 : decode cX10_init 214 = .ok (.putfield 87, 3) := by decide +kernel
theorem dX10_init_217 : decode cX10_init 217 = .ok (.aload_n 0, 1) := by decide +kernel
theorem dX10_init_218 : decode cX10_init 218 = .ok (.bipush 54, 2) := by decide +kernel
theorem dX10_init_220 : decode cX10_init 220 = .ok (.newarray .int, 2) := by decide +kernel
theorem dX10_init_222 : decode cX10_init 222 = .ok (.putfield 90, 3) := by decide +kernel
theorem dX10_init_225 : decode cX10_init 225 = .ok (.aload_n 0, 1) := by decide +kernel
theorem dX10_init_226 : decode cX10_init 226 = .ok (.bipush 54, 2) := by decide +kernel
theorem dX10_init_228 : decode cX10_init 228 = .ok (.newarray .int, 2) := by decide +kernel
theorem dX10_init_230 : decode cX10_init 230 = .ok (.putfield 93, 3) := by decide +kernel
theorem dX10_init_233 : decode cX10_init 233 = .ok (.aload_n 0, 1) := by decide +kernel
theorem dX10_init_234 : decode cX10_init 234 = .ok (.bipush 54, 2) := by decide +kernel
theorem dX10_init_236 : decode cX10_init 236 = .ok (.newarray .int, 2) := by decide +kernel
theorem dX10_init_238 : decode cX10_init 238 = .ok (.putfield 96, 3) := by decide +kernel
theorem dX10_init_241 : decode cX10_init 241 = .ok (.aload_n 0, 1) := by decide +kernel
theorem dX10_init_242 : decode cX10_init 242 = .ok (.sipush 2400, 3) := by decide +kernel
theorem dX10_init_245 : decode cX10_init 245 = .ok (.newarray .int, 2) := by decide +kernel
theorem dX10_init_247 : decode cX10_init 247 = .ok (.putfield 99, 3) := by decide +kernel
theorem dX10_init_250 : decode cX10_init 250 = .ok (.aload_n 0, 1) := by decide +kernel
theorem dX10_init_251 : decode cX10_init 251 = .ok (.bipush 6, 2) := by decide +kernel
theorem dX10_init_253 : decode cX10_init 253 = .ok (.newarray .int, 2) := by decide +kernel
theorem dX10_init_255 : decode cX10_init 255 = .ok (.putfield 102, 3) := by decide +kernel
theorem dX10_init_258 : decode cX10_init 258 = .ok (.aload_n 0, 1) := by decide +kernel
theorem dX10_init_259 : decode cX10_init 259 = .ok (.bipush 6, 2) := by decide +kernel
theorem dX10_init_261 : decode cX10_init 261 = .ok (.newarray .int, 2) := by decide +kernel
theorem dX10_init_263 : decode cX10_init 263 = .ok (.putfield 105, 3) := by decide +kernel
theorem dX10_init_266 : decode cX10_init 266 = .ok (.aload_n 0, 1) := by decide +kernel
theorem dX10_init_267 : decode cX10_init 267 = .ok (.bipush 12, 2) := by decide +kernel
theorem dX10_init_269 : decode cX10_init 269 = .ok (.newarray .int, 2) := by decide +kernel
theorem dX10_init_271 : decode cX10_init 271 = .ok (.putfield 108, 3) := by decide +kernel
theorem dX10_init_274 : decode cX10_init 274 = .ok (.aload_n 0, 1) := by decide +kernel
theorem dX10_init_275 : decode cX10_init 275 = .ok (.bipush 16, 2) := by decide +kernel
theorem dX10_init_277 : decode cX10_init 277 = .ok (.newarray .int, 2) := by decide +kernel
theorem dX10_init_279 : decode cX10_init 279 = .ok (.putfield 111, 3) := by decide +kernel
theorem dX10_init_282 : decode cX10_init 282 = .ok (.aload_n 0, 1) := by decide +kernel
theorem dX10_init_283 : decode cX10_init 283 = .ok (.sipush 4000, 3) := by decide +kernel
theorem dX10_init_286 : decode cX10_init 286 = .ok (.newarray .int, 2) := by decide +kernel
theorem dX10_init_288 : decode cX10_init 288 = .ok (.putfield 114, 3) := by decide +kernel
theorem dX10_init_291 : decode cX10_init 291 = .ok (.aload_n 0, 1) := by decide +kernel
theorem dX10_init_292 : decode cX10_init 292 = .ok (.sipush 4000, 3) := by decide +kernel
theorem dX10_init_295 : decode cX10_init 295 = .ok (.newarray .int, 2) := by decide +kernel
theorem dX10_init_297 : decode cX10_init 297 = .ok (.putfield 117, 3) := by decide +kernel
theorem dX10_init_300 : decode cX10_init 300 = .ok (.aload_n 0, 1) := by decide +kernel
theorem dX10_init_301 : decode cX10_init 301 = .ok (.sipush 401, 3) := by decide +kernel
theorem dX10_init_304 : decode cX10_init 304 = .ok (.newarray .int, 2) := by decide +kernel
theorem dX10_init_306 : decode cX10_init 306 = .ok (.putfield 120, 3) := by decide +kernel
theorem dX10_init_309 : decode cX10_init 309 = .ok (.aload_n 0, 1) := by decide +kernel
theorem dX10_init_310 : decode cX10_init 310 = .ok (.sipush 400, 3) := by decide +kernel
theorem dX10_init_313 : decode cX10_init 313 = .ok (.newarray .int, 2) := by decide +kernel
theorem dX10_init_315 : decode cX10_init 315 = .ok (.putfield 123, 3) := by decide +kernel
theorem dX10_init_318 : decode cX10_init 318 = .ok (.aload_n 0, 1) := by decide +kernel
theorem dX10_init_319 : decode cX10_init 319 = .ok (.sipush 500, 3) := by decide +kernel
theorem dX10_init_322 : decode cX10_init 322 = .ok (.newarray .int, 2) := by decide +kernel
theorem dX10_init_324 : decode cX10_init 324 = .ok (.putfield 126, 3) := by decide +kernel
theorem dX10_init_327 : decode cX10_init 327 = .ok (.aload_n 0, 1) := by decide +kernel
theorem dX10_init_328 : decode cX10_init 328 = .ok (.sipush 1000, 3) := by decide +kernel
theorem dX10_init_331 : decode cX10_init 331 = .ok (.newarray .boolean, 2) := by decide +kernel
theorem dX10_init_333 : decode cX10_init 333 = .ok (.putfield 129, 3) := by decide +kernel
theorem dX10_init_336 : decode cX10_init 336 = .ok (.aload_n 0, 1) := by decide +kernel
theorem dX10_init_337 : decode cX10_init 337 = .ok (.sipush 1000, 3) := by decide +kernel
theorem dX10_init_340 : decode cX10_init 340 = .ok (.newarray .int, 2) := by decide +kernel
theorem dX10_init_342 : decode cX10_init 342 = .ok (.putfield 132, 3) := by decide +kernel
theorem dX10_init_345 : decode cX10_init 345 = .ok (.aload_n 0, 1) := by decide +kernel
theorem dX10_init_346 : decode cX10_init 346 = .ok (.bipush 12, 2) := by decide +kernel
theorem dX10_init_348 : decode cX10_init 348 = .ok (.newarray .int, 2) := by decide +kernel
theorem dX10_init_350 : decode cX10_init 350 = .ok (.putfield 135, 3) := by decide +kernel
theorem dX10_init_353 : decode cX10_init 353 = .ok (.aload_n 0, 1) := by decide +kernel
theorem dX10_init_354 : decode cX10_init 354 = .ok (.bipush 12, 2) := by decide +kernel
theorem dX10_init_356 : decode cX10_init 356 = .ok (.newarray .int, 2) := by decide +kernel
theorem dX10_init_358 : decode cX10_init 358 = .ok (.putfield 138, 3) := by decide +kernel
theorem dX10_init_361 : decode cX10_init 361 = .ok (.aload_n 0, 1) := by decide +kernel
theorem dX10_init_362 : decode cX10_init 362 = .ok (.bipush 12, 2) := by decide +kernel
theorem dX10_init_364 : decode cX10_init 364 = .ok (.newarray .int, 2) := by decide +kernel
theorem dX10_init_366 : decode cX10_init 366 = .ok (.putfield 141, 3) := by decide +kernel
theorem dX10_init_369 : decode cX10_init 369 = .ok (.aload_n 0, 1) := by decide +kernel
theorem dX10_init_370 : decode cX10_init 370 = .ok (.sipush 144, 3) := by decide +kernel
theorem dX10_init_373 : decode cX10_init 373 = .ok (.newarray .int, 2) := by decide +kernel
theorem dX10_init_375 : decode cX10_init 375 = .ok (.putfield 144, 3) := by decide +kernel
theorem dX10_init_378 : decode cX10_init 378 = .ok (.aload_n 0, 1) := by decide +kernel
theorem dX10_init_379 : decode cX10_init 379 = .ok (.sipush 144, 3) := by decide +kernel
theorem dX10_init_382 : decode cX10_init 382 = .ok (.newarray .int, 2) := by decide +kernel
theorem dX10_init_384 : decode cX10_init 384 = .ok (.putfield 147, 3) := by decide +kernel
theorem dX10_init_387 : decode cX10_init 387 = .ok (.aload_n 0, 1) := by decide +kernel
theorem dX10_init_388 : decode cX10_init 388 = .ok (.bipush 31, 2) := by decide +kernel
theorem dX10_init_390 : decode cX10_init 390 = .ok (.newarray .int, 2) := by decide +kernel
theorem dX10_init_392 : decode cX10_init 392 = .ok (.putfield 150, 3) := by decide +kernel
theorem dX10_init_395 : decode cX10_init 395 = .ok (.aload_n 0, 1) := by decide +kernel
theorem dX10_init_396 : decode cX10_init 396 = .ok (.sipush 1550, 3) := by decide +kernel
theorem dX10_init_399 : decode cX10_init 399 = .ok (.newarray .int, 2) := by decide +kernel
theorem dX10_init_401 : decode cX10_init 401 = .ok (.putfield 153, 3) := by decide +kernel
theorem dX10_init_404 : decode cX10_init 404 = .ok (.aload_n 0, 1) := by decide +kernel
theorem dX10_init_405 : decode cX10_init 405 = .ok (.bipush 8, 2) := by decide +kernel
theorem dX10_init_407 : decode cX10_init 407 = .ok (.newarray .int, 2) := by decide +kernel
theorem dX10_init_409 : decode cX10_init 409 = .ok (.putfield 156, 3) := by decide +kernel
theorem dX10_init_412 : decode cX10_init 412 = .ok (.aload_n 0, 1) := by decide +kernel
theorem dX10_init_413 : decode cX10_init 413 = .ok (.bipush 24, 2) := by decide +kernel
theorem dX10_init_415 : decode cX10_init 415 = .ok (.newarray .int, 2) := by decide +kernel
theorem dX10_init_417 : decode cX10_init 417 = .ok (.putfield 159, 3) := by decide +kernel
theorem dX10_init_420 : decode cX10_init 420 = .ok (.aload_n 0, 1) := by decide +kernel
theorem dX10_init_421 : decode cX10_init 421 = .ok (.bipush 24, 2) := by decide +kernel
theorem dX10_init_423 : decode cX10_init 423 = .ok (.newarray .int, 2) := by decide +kernel
theorem dX10_init_425 : decode cX10_init 425 = .ok (.putfield 162, 3) := by decide +kernel
theorem dX10_init_428 : decode cX10_init 428 = .ok (.aload_n 0, 1) := by decide +kernel
theorem dX10_init_429 : decode cX10_init 429 = .ok (.bipush 24, 2) := by decide +kernel
theorem dX10_init_431 : decode cX10_init 431 = .ok (.newarray .int, 2) := by decide +kernel
theorem dX10_init_433 : decode cX10_init 433 = .ok (.putfield 165, 3) := by decide +kernel
theorem dX10_init_436 : decode cX10_init 436 = .ok (.aload_n 0, 1) := by decide +kernel
theorem dX10_init_437 : decode cX10_init 437 = .ok (.bipush 24, 2) := by decide +kernel
theorem dX10_init_439 : decode cX10_init 439 = .ok (.newarray .int, 2) := by decide +kernel
theorem dX10_init_441 : decode cX10_init 441 = .ok (.putfield 168, 3) := by decide +kernel
theorem dX10_init_444 : decode cX10_init 444 = .ok (.aload_n 0, 1) := by decide +kernel
theorem dX10_init_445 : decode cX10_init 445 = .ok (.iconst 3, 1) := by decide +kernel
theorem dX10_init_446 : decode cX10_init 446 = .ok (.newarray .int, 2) := by decide +kernel
theorem dX10_init_448 : decode cX10_init 448 = .ok (.putfield 171, 3) := by decide +kernel
theorem dX10_init_451 : decode cX10_init 451 = .ok (.aload_n 0, 1) := by decide +kernel
theorem dX10_init_452 : decode cX10_init 452 = .ok (.iconst 3, 1) := by decide +kernel
theorem dX10_init_453 : decode cX10_init 453 = .ok (.newarray .int, 2) := by decide +kernel
theorem dX10_init_455 : decode cX10_init 455 = .ok (.putfield 174, 3) := by decide +kernel
theorem dX10_init_458 : decode cX10_init 458 = .ok (.aload_n 0, 1) := by decide +kernel
theorem dX10_init_459 : decode cX10_init 459 = .ok (.iconst 3, 1) := by decide +kernel
theorem dX10_init_460 : decode cX10_init 460 = .ok (.newarray .int, 2) := by decide +kernel
theorem dX10_init_462 : decode cX10_init 462 = .ok (.putfield 177, 3) := by decide +kernel
theorem dX10_init_465 : decode cX10_init 465 = .ok (.aload_n 0, 1) := by decide +kernel
theorem dX10_init_466 : decode cX10_init 466 = .ok (.iconst 3, 1) := by decide +kernel
theorem dX10_init_467 : decode cX10_init 467 = .ok (.newarray .int, 2) := by decide +kernel
theorem dX10_init_469 : decode cX10_init 469 = .ok (.putfield 180, 3) := by decide +kernel
theorem dX10_init_472 : decode cX10_init 472 = .ok (.aload_n 0, 1) := by decide +kernel
theorem dX10_init_473 : decode cX10_init 473 = .ok (.iconst 3, 1) := by decide +kernel
theorem dX10_init_474 : decode cX10_init 474 = .ok (.newarray .int, 2) := by decide +kernel
theorem dX10_init_476 : decode cX10_init 476 = .ok (.putfield 183, 3) := by decide +kernel
theorem dX10_init_479 : decode cX10_init 479 = .ok (.aload_n 0, 1) := by decide +kernel
theorem dX10_init_480 : decode cX10_init 480 = .ok (.iconst 3, 1) := by decide +kernel
theorem dX10_init_481 : decode cX10_init 481 = .ok (.newarray .int, 2) := by decide +kernel
theorem dX10_init_483 : decode cX10_init 483 = .ok (.putfield 186, 3) := by decide +kernel
theorem dX10_init_486 : decode cX10_init 486 = .ok (.aload_n 0, 1) := by decide +kernel
theorem dX10_init_487 : decode cX10_init 487 = .ok (.iconst 3, 1) := by decide +kernel
theorem dX10_init_488 : decode cX10_init 488 = .ok (.newarray .int, 2) := by decide +kernel
theorem dX10_init_490 : decode cX10_init 490 = .ok (.putfield 189, 3) := by decide +kernel
theorem dX10_init_493 : decode cX10_init 493 = .ok (.aload_n 0, 1) := by decide +kernel
theorem dX10_init_494 : decode cX10_init 494 = .ok (.iconst 3, 1) := by decide +kernel
theorem dX10_init_495 : decode cX10_init 495 = .ok (.newarray .int, 2) := by decide +kernel
theorem dX10_init_497 : decode cX10_init 497 = .ok (.putfield 192, 3) := by decide +kernel
theorem dX10_init_500 : decode cX10_init 500 = .ok (.aload_n 0, 1) := by decide +kernel
theorem dX10_init_501 : decode cX10_init 501 = .ok (.iconst 3, 1) := by decide +kernel
theorem dX10_init_502 : decode cX10_init 502 = .ok (.newarray .int, 2) := by decide +kernel
theorem dX10_init_504 : decode cX10_init 504 = .ok (.putfield 195, 3) := by decide +kernel
theorem dX10_init_507 : decode cX10_init 507 = .ok (.aload_n 0, 1) := by decide +kernel
theorem dX10_init_508 : decode cX10_init 508 = .ok (.sipush 180, 3) := by decide +kernel
theorem dX10_init_511 : decode cX10_init 511 = .ok (.newarray .int, 2) := by decide +kernel
theorem dX10_init_513 : decode cX10_init 513 = .ok (.putfield 198, 3) := by decide +kernel
theorem dX10_init_516 : decode cX10_init 516 = .ok (.aload_n 0, 1) := by decide +kernel
theorem dX10_init_517 : decode cX10_init 517 = .ok (.bipush 24, 2) := by decide +kernel
theorem dX10_init_519 : decode cX10_init 519 = .ok (.newarray .int, 2) := by decide +kernel
theorem dX10_init_521 : decode cX10_init 521 = .ok (.putfield 201, 3) := by decide +kernel
theorem dX10_init_524 : decode cX10_init 524 = .ok (.aload_n 0, 1) := by decide +kernel
theorem dX10_init_525 : decode cX10_init 525 = .ok (.sipush 1200, 3) := by decide +kernel
theorem dX10_init_528 : decode cX10_init 528 = .ok (.newarray .int, 2) := by decide +kernel
theorem dX10_init_530 : decode cX10_init 530 = .ok (.putfield 204, 3) := by decide +kernel
theorem dX10_init_533 : decode cX10_init 533 = .ok (.aload_n 0, 1) := by decide +kernel
theorem dX10_init_534 : decode cX10_init 534 = .ok (.sipush 1200, 3) := by decide +kernel
theorem dX10_init_537 : decode cX10_init 537 = .ok (.newarray .int, 2) := by decide +kernel
theorem dX10_init_539 : decode cX10_init 539 = .ok (.putfield 207, 3) := by decide +kernel
theorem dX10_init_542 : decode cX10_init 542 = .ok (.iconst 0, 1) := by decide +kernel
theorem dX10_init_543 : decode cX10_init 543 = .ok (.istore_n 1, 1) := by decide +kernel
theorem dX10_init_544 : decode cX10_init 544 = .ok (.iload_n 1, 1) := by decide +kernel
theorem dX10_init_545 : decode cX10_init 545 = .ok (.bipush 6, 2) := by decide +kernel
theorem dX10_init_547 : decode cX10_init 547 = .ok (.if_icmp .ge 16, 3) := by decide +kernel
theorem dX10_init_550 : decode cX10_init 550 = .ok (.aload_n 0, 1) := by decide +kernel
theorem dX10_init_551 : decode cX10_init 551 = .ok (.getfield 72, 3) := by decide +kernel
theorem dX10_init_554 : decode cX10_init 554 = .ok (.iload_n 1, 1) := by decide +kernel
theorem dX10_init_555 : decode cX10_init 555 = .ok (.iconst (-1), 1) := by decide +kernel
theorem dX10_init_556 : decode cX10_init 556 = .ok (.iastore, 1) := by decide +kernel
theorem dX10_init_557 : decode cX10_init 557 = .ok (.iinc 1 1, 3) := by decide +kernel
theorem dX10_init_560 : decode cX10_init 560 = .ok (.goto (-16), 3) := by decide +kernel
theorem dX10_init_563 : decode cX10_init 563 = .ok (.iconst 0, 1) := by decide +kernel
theorem dX10_init_564 : decode cX10_init 564 = .ok (.istore_n 1, 1) := by decide +kernel
theorem dX10_init_565 : decode cX10_init 565 = .ok (.iload_n 1, 1) := by decide +kernel
theorem dX10_init_566 : decode cX10_init 566 = .ok (.iconst 3, 1) := by decide +kernel
theorem dX10_init_567 : decode cX10_init 567 = .ok (.if_icmp .ge 16, 3) := by decide +kernel
theorem dX10_init_570 : decode cX10_init 570 = .ok (.aload_n 0, 1) := by decide +kernel
theorem dX10_init_571 : decode cX10_init 571 = .ok (.getfield 171, 3) := by decide +kernel
theorem dX10_init_574 : decode cX10_init 574 = .ok (.iload_n 1, 1) := by decide +kernel
theorem dX10_init_575 : decode cX10_init 575 = .ok (.iconst (-1), 1) := by decide +kernel
theorem dX10_init_576 : decode cX10_init 576 = .ok (.iastore, 1) := by decide +kernel
theorem dX10_init_577 : decode cX10_init 577 = .ok (.iinc 1 1, 3) := by decide +kernel
theorem dX10_init_580 : decode cX10_init 580 = .ok (.goto (-15), 3) := by decide +kernel
theorem dX10_init_583 : decode cX10_init 583 = .ok (.return_, 1) := by decide +kernel
theorem dX10_in_0 : decode cX10_in 0 = .ok (.iload_n 0, 1) := by decide +kernel
theorem dX10_in_1 : decode cX10_in 1 = .ok (.iload_n 1, 1) := by decide +kernel
theorem dX10_in_2 : decode cX10_in 2 = .ok (.if_icmp .lt 12, 3) := by decide +kernel
theorem dX10_in_5 : decode cX10_in 5 = .ok (.iload_n 0, 1) := by decide +kernel
theorem dX10_in_6 : decode cX10_in 6 = .ok (.iload_n 2, 1) := by decide +kernel
theorem dX10_in_7 : decode cX10_in 7 = .ok (.if_icmp .gt 7, 3) := by decide +kernel
theorem dX10_in_10 : decode cX10_in 10 = .ok (.iconst 1, 1) := by decide +kernel
theorem dX10_in_11 : decode cX10_in 11 = .ok (.goto 4, 3) := by decide +kernel
theorem dX10_in_14 : decode cX10_in 14 = .ok (.iconst 0, 1) := by decide +kernel
theorem dX10_in_15 : decode cX10_in 15 = .ok (.ireturn, 1) := by decide +kernel
theorem dX10_feed_0 : decode cX10_feed 0 = .ok (.aload_n 0, 1) := by decide +kernel
theorem dX10_feed_1 : decode cX10_feed 1 = .ok (.getfield 210, 3) := by decide +kernel
theorem dX10_feed_4 : decode cX10_feed 4 = .ok (.bipush 20, 2) := by decide +kernel
theorem dX10_feed_6 : decode cX10_feed 6 = .ok (.iadd, 1) := by decide +kernel
theorem dX10_feed_7 : decode cX10_feed 7 = .ok (.sipush 600, 3) := by decide +kernel
theorem dX10_feed_10 : decode cX10_feed 10 = .ok (.if_icmp .le 6, 3) := by decide +kernel
theorem dX10_feed_13 : decode cX10_feed 13 = .ok (.bipush (-3), 2) := by decide +kernel
theorem dX10_feed_15 : decode cX10_feed 15 = .ok (.ireturn, 1) := by decide +kernel
theorem dX10_feed_16 : decode cX10_feed 16 = .ok (.aload_n 0, 1) := by decide +kernel
theorem dX10_feed_17 : decode cX10_feed 17 = .ok (.iload_n 1, 1) := by decide +kernel
theorem dX10_feed_18 : decode cX10_feed 18 = .ok (.invokevirtual 213, 3) := by decide +kernel
theorem dX10_feed_21 : decode cX10_feed 21 = .ok (.aload_n 0, 1) := by decide +kernel
theorem dX10_feed_22 : decode cX10_feed 22 = .ok (.iload_n 2, 1) := by decide +kernel
theorem dX10_feed_23 : decode cX10_feed 23 = .ok (.invokevirtual 213, 3) := by decide +kernel
theorem dX10_feed_26 : decode cX10_feed 26 = .ok (.aload_n 0, 1) := by decide +kernel
theorem dX10_feed_27 : decode cX10_feed 27 = .ok (.iload_n 3, 1) := by decide +kernel
theorem dX10_feed_28 : decode cX10_feed 28 = .ok (.invokevirtual 213, 3) := by decide +kernel
theorem dX10_feed_31 : decode cX10_feed 31 = .ok (.aload_n 0, 1) := by decide +kernel
theorem dX10_feed_32 : decode cX10_feed 32 = .ok (.iload 4, 2) := by decide +kernel
theorem dX10_feed_34 : decode cX10_feed 34 = .ok (.invokevirtual 213, 3) := by decide +kernel
theorem dX10_feed_37 : decode cX10_feed 37 = .ok (.aload_n 0, 1) := by decide +kernel
theorem dX10_feed_38 : decode cX10_feed 38 = .ok (.iload 5, 2) := by decide +kernel
theorem dX10_feed_40 : decode cX10_feed 40 = .ok (.invokevirtual 213, 3) := by decide +kernel
theorem dX10_feed_43 : decode cX10_feed 43 = .ok (.aload_n 0, 1) := by decide +kernel
theorem dX10_feed_44 : decode cX10_feed 44 = .ok (.getfield 210, 3) := by decide +kernel
theorem dX10_feed_47 : decode cX10_feed 47 = .ok (.ireturn, 1) := by decide +kernel
theorem dX10_four_0 : decode cX10_four 0 = .ok (.bipush 24, 2) := by decide +kernel
theorem dX10_four_2 : decode cX10_four 2 = .ok (.istore_n 2, 1) := by decide +kernel
theorem dX10_four_3 : decode cX10_four 3 = .ok (.iload_n 2, 1) := by decide +kernel
theorem dX10_four_4 : decode cX10_four 4 = .ok (.ifCond .lt 35, 3) := by decide +kernel
theorem dX10_four_7 : decode cX10_four 7 = .ok (.aload_n 0, 1) := by decide +kernel
theorem dX10_four_8 : decode cX10_four 8 = .ok (.getfield 7, 3) := by decide +kernel
theorem dX10_four_11 : decode cX10_four 11 = .ok (.aload_n 0, 1) := by decide +kernel
theorem dX10_four_12 : decode cX10_four 12 = .ok (.getfield 210, 3) := by decide +kernel
theorem dX10_four_15 : decode cX10_four 15 = .ok (.iload_n 1, 1) := by decide +kernel
theorem dX10_four_16 : decode cX10_four 16 = .ok (.iload_n 2, 1) := by decide +kernel
theorem dX10_four_17 : decode cX10_four 17 = .ok (.ishr, 1) := by decide +kernel
theorem dX10_four_18 : decode cX10_four 18 = .ok (.sipush 255, 3) := by decide +kernel
theorem dX10_four_21 : decode cX10_four 21 = .ok (.iand, 1) := by decide +kernel
theorem dX10_four_22 : decode cX10_four 22 = .ok (.iastore, 1) := by decide +kernel
theorem dX10_four_23 : decode cX10_four 23 = .ok (.aload_n 0, 1) := by decide +kernel
theorem dX10_four_24 : decode cX10_four 24 = .ok (.dup, 1) := by decide +kernel
theorem dX10_four_25 : decode cX10_four 25 = .ok (.getfield 210, 3) := by decide +kernel
theorem dX10_four_28 : decode cX10_four 28 = .ok (.iconst 1, 1) := by decide +kernel
theorem dX10_four_29 : decode cX10_four 29 = .ok (.iadd, 1) := by decide +kernel
theorem dX10_four_30 : decode cX10_four 30 = .ok (.putfield 210, 3) := by decide +kernel
theorem dX10_four_33 : decode cX10_four 33 = .ok (.iinc 2 (-8), 3) := by decide +kernel
theorem dX10_four_36 : decode cX10_four 36 = .ok (.goto (-33), 3) := by decide +kernel
theorem dX10_four_39 : decode cX10_four 39 = .ok (.return_, 1) := by decide +kernel
theorem dX10_cut_0 : decode cX10_cut 0 = .ok (.iload_n 1, 1) := by decide +kernel
theorem dX10_cut_1 : decode cX10_cut 1 = .ok (.iconst 0, 1) := by decide +kernel
theorem dX10_cut_2 : decode cX10_cut 2 = .ok (.aload_n 0, 1) := by decide +kernel
theorem dX10_cut_3 : decode cX10_cut 3 = .ok (.getfield 210, 3) := by decide +kernel
theorem dX10_cut_6 : decode cX10_cut 6 = .ok (.invokestatic 217, 3) := by decide +kernel
theorem dX10_cut_9 : decode cX10_cut 9 = .ok (.ifCond .ne 6, 3) := by decide +kernel
theorem dX10_cut_12 : decode cX10_cut 12 = .ok (.bipush (-2), 2) := by decide +kernel
theorem dX10_cut_14 : decode cX10_cut 14 = .ok (.ireturn, 1) := by decide +kernel
theorem dX10_cut_15 : decode cX10_cut 15 = .ok (.aload_n 0, 1) := by decide +kernel
theorem dX10_cut_16 : decode cX10_cut 16 = .ok (.dup, 1) := by decide +kernel
theorem dX10_cut_17 : decode cX10_cut 17 = .ok (.getfield 210, 3) := by decide +kernel
theorem dX10_cut_20 : decode cX10_cut 20 = .ok (.iload_n 1, 1) := by decide +kernel
theorem dX10_cut_21 : decode cX10_cut 21 = .ok (.isub, 1) := by decide +kernel
theorem dX10_cut_22 : decode cX10_cut 22 = .ok (.putfield 210, 3) := by decide +kernel
theorem dX10_cut_25 : decode cX10_cut 25 = .ok (.aload_n 0, 1) := by decide +kernel
theorem dX10_cut_26 : decode cX10_cut 26 = .ok (.getfield 210, 3) := by decide +kernel
theorem dX10_cut_29 : decode cX10_cut 29 = .ok (.ireturn, 1) := by decide +kernel
theorem dX10_isOp_0 : decode cX10_isOp 0 = .ok (.iload_n 0, 1) := by decide +kernel
theorem dX10_isOp_1 : decode cX10_isOp 1 = .ok (.iconst 0, 1) := by decide +kernel
theorem dX10_isOp_2 : decode cX10_isOp 2 = .ok (.bipush 43, 2) := by decide +kernel
theorem dX10_isOp_4 : decode cX10_isOp 4 = .ok (.invokestatic 217, 3) := by decide +kernel
theorem dX10_isOp_7 : decode cX10_isOp 7 = .ok (.ifCond .ne 14, 3) := by decide +kernel
theorem dX10_isOp_10 : decode cX10_isOp 10 = .ok (.iload_n 0, 1) := by decide +kernel
theorem dX10_isOp_11 : decode cX10_isOp 11 = .ok (.bipush 84, 2) := by decide +kernel
theorem dX10_isOp_13 : decode cX10_isOp 13 = .ok (.bipush 96, 2) := by decide +kernel
theorem dX10_isOp_15 : decode cX10_isOp 15 = .ok (.invokestatic 217, 3) := by decide +kernel
theorem dX10_isOp_18 : decode cX10_isOp 18 = .ok (.ifCond .eq 7, 3) := by decide +kernel
theorem dX10_isOp_21 : decode cX10_isOp 21 = .ok (.iconst 1, 1) := by decide +kernel
theorem dX10_isOp_22 : decode cX10_isOp 22 = .ok (.goto 4, 3) := by decide +kernel
theorem dX10_isOp_25 : decode cX10_isOp 25 = .ok (.iconst 0, 1) := by decide +kernel
theorem dX10_isOp_26 : decode cX10_isOp 26 = .ok (.ireturn, 1) := by decide +kernel
theorem dX10_sizeOf_0 : decode cX10_sizeOf 0 = .ok (.iload_n 0, 1) := by decide +kernel
theorem dX10_sizeOf_1 : decode cX10_sizeOf 1 = .ok (.lookupswitch 113 #[(1, 103), (2, 99), (3, 103), (4, 103), (5, 101), (33, 105), (34, 103), (35, 103), (40, 103), (49, 101), (58, 111)], 99) := by decide +kernel
theorem dX10_sizeOf_100 : decode cX10_sizeOf 100 = .ok (.iconst 5, 1) := by decide +kernel
theorem dX10_sizeOf_101 : decode cX10_sizeOf 101 = .ok (.ireturn, 1) := by decide +kernel
theorem dX10_sizeOf_102 : decode cX10_sizeOf 102 = .ok (.iconst 3, 1) := by decide +kernel
theorem dX10_sizeOf_103 : decode cX10_sizeOf 103 = .ok (.ireturn, 1) := by decide +kernel
theorem dX10_sizeOf_104 : decode cX10_sizeOf 104 = .ok (.iconst 2, 1) := by decide +kernel
theorem dX10_sizeOf_105 : decode cX10_sizeOf 105 = .ok (.ireturn, 1) := by decide +kernel
theorem dX10_sizeOf_106 : decode cX10_sizeOf 106 = .ok (.iconst 4, 1) := by decide +kernel
theorem dX10_sizeOf_107 : decode cX10_sizeOf 107 = .ok (.iconst 2, 1) := by decide +kernel
theorem dX10_sizeOf_108 : decode cX10_sizeOf 108 = .ok (.iload_n 1, 1) := by decide +kernel
theorem dX10_sizeOf_109 : decode cX10_sizeOf 109 = .ok (.imul, 1) := by decide +kernel
theorem dX10_sizeOf_110 : decode cX10_sizeOf 110 = .ok (.iadd, 1) := by decide +kernel
theorem dX10_sizeOf_111 : decode cX10_sizeOf 111 = .ok (.ireturn, 1) := by decide +kernel
theorem dX10_sizeOf_112 : decode cX10_sizeOf 112 = .ok (.iconst 1, 1) := by decide +kernel
theorem dX10_sizeOf_113 : decode cX10_sizeOf 113 = .ok (.ireturn, 1) := by decide +kernel
theorem dX10_sizeOf_114 : decode cX10_sizeOf 114 = .ok (.iload_n 0, 1) := by decide +kernel
theorem dX10_sizeOf_115 : decode cX10_sizeOf 115 = .ok (.bipush 20, 2) := by decide +kernel
theorem dX10_sizeOf_117 : decode cX10_sizeOf 117 = .ok (.bipush 32, 2) := by decide +kernel
theorem dX10_sizeOf_119 : decode cX10_sizeOf 119 = .ok (.invokestatic 217, 3) := by decide +kernel
theorem dX10_sizeOf_122 : decode cX10_sizeOf 122 = .ok (.ifCond .ne 14, 3) := by decide +kernel
theorem dX10_sizeOf_125 : decode cX10_sizeOf 125 = .ok (.iload_n 0, 1) := by decide +kernel
theorem dX10_sizeOf_126 : decode cX10_sizeOf 126 = .ok (.bipush 48, 2) := by decide +kernel
theorem dX10_sizeOf_128 : decode cX10_sizeOf 128 = .ok (.bipush 57, 2) := by decide +kernel
theorem dX10_sizeOf_130 : decode cX10_sizeOf 130 = .ok (.invokestatic 217, 3) := by decide +kernel
theorem dX10_sizeOf_133 : decode cX10_sizeOf 133 = .ok (.ifCond .eq 7, 3) := by decide +kernel
theorem dX10_sizeOf_136 : decode cX10_sizeOf 136 = .ok (.iconst 2, 1) := by decide +kernel
theorem dX10_sizeOf_137 : decode cX10_sizeOf 137 = .ok (.goto 19, 3) := by decide +kernel
theorem dX10_sizeOf_140 : decode cX10_sizeOf 140 = .ok (.iload_n 0, 1) := by decide +kernel
theorem dX10_sizeOf_141 : decode cX10_sizeOf 141 = .ok (.bipush 84, 2) := by decide +kernel
theorem dX10_sizeOf_143 : decode cX10_sizeOf 143 = .ok (.bipush 96, 2) := by decide +kernel
theorem dX10_sizeOf_145 : decode cX10_sizeOf 145 = .ok (.invokestatic 217, 3) := by decide +kernel
theorem dX10_sizeOf_148 : decode cX10_sizeOf 148 = .ok (.ifCond .eq 7, 3) := by decide +kernel
theorem dX10_sizeOf_151 : decode cX10_sizeOf 151 = .ok (.iconst 3, 1) := by decide +kernel
theorem dX10_sizeOf_152 : decode cX10_sizeOf 152 = .ok (.goto 4, 3) := by decide +kernel
theorem dX10_sizeOf_155 : decode cX10_sizeOf 155 = .ok (.iconst 1, 1) := by decide +kernel
theorem dX10_sizeOf_156 : decode cX10_sizeOf 156 = .ok (.ireturn, 1) := by decide +kernel
theorem dX10_s16_0 : decode cX10_s16 0 = .ok (.sipush 256, 3) := by decide +kernel
theorem dX10_s16_3 : decode cX10_s16 3 = .ok (.iload_n 0, 1) := by decide +kernel
theorem dX10_s16_4 : decode cX10_s16 4 = .ok (.imul, 1) := by decide +kernel
theorem dX10_s16_5 : decode cX10_s16 5 = .ok (.iload_n 1, 1) := by decide +kernel
theorem dX10_s16_6 : decode cX10_s16 6 = .ok (.iadd, 1) := by decide +kernel
theorem dX10_s16_7 : decode cX10_s16 7 = .ok (.istore_n 2, 1) := by decide +kernel
theorem dX10_s16_8 : decode cX10_s16 8 = .ok (.iload_n 2, 1) := by decide +kernel
theorem dX10_s16_9 : decode cX10_s16 9 = .ok (.sipush 32767, 3) := by decide +kernel
theorem dX10_s16_12 : decode cX10_s16 12 = .ok (.if_icmp .le 10, 3) := by decide +kernel
theorem dX10_s16_15 : decode cX10_s16 15 = .ok (.iload_n 2, 1) := by decide +kernel
theorem dX10_s16_16 : decode cX10_s16 16 = .ok (.ldc 221, 2) := by decide +kernel
theorem dX10_s16_18 : decode cX10_s16 18 = .ok (.isub, 1) := by decide +kernel
theorem dX10_s16_19 : decode cX10_s16 19 = .ok (.goto 4, 3) := by decide +kernel
theorem dX10_s16_22 : decode cX10_s16 22 = .ok (.iload_n 2, 1) := by decide +kernel
theorem dX10_s16_23 : decode cX10_s16 23 = .ok (.ireturn, 1) := by decide +kernel
theorem dX10_s8_0 : decode cX10_s8 0 = .ok (.iload_n 0, 1) := by decide +kernel
theorem dX10_s8_1 : decode cX10_s8 1 = .ok (.bipush 127, 2) := by decide +kernel
theorem dX10_s8_3 : decode cX10_s8 3 = .ok (.if_icmp .le 11, 3) := by decide +kernel
theorem dX10_s8_6 : decode cX10_s8 6 = .ok (.iload_n 0, 1) := by decide +kernel
theorem dX10_s8_7 : decode cX10_s8 7 = .ok (.sipush 256, 3) := by decide +kernel
theorem dX10_s8_10 : decode cX10_s8 10 = .ok (.isub, 1) := by decide +kernel
theorem dX10_s8_11 : decode cX10_s8 11 = .ok (.goto 4, 3) := by decide +kernel
theorem dX10_s8_14 : decode cX10_s8 14 = .ok (.iload_n 0, 1) := by decide +kernel
theorem dX10_s8_15 : decode cX10_s8 15 = .ok (.ireturn, 1) := by decide +kernel
theorem dX10_size_0 : decode cX10_size 0 = .ok (.aload_n 0, 1) := by decide +kernel
theorem dX10_size_1 : decode cX10_size 1 = .ok (.getfield 26, 3) := by decide +kernel
theorem dX10_size_4 : decode cX10_size 4 = .ok (.sipush 400, 3) := by decide +kernel
theorem dX10_size_7 : decode cX10_size 7 = .ok (.iload_n 1, 1) := by decide +kernel
theorem dX10_size_8 : decode cX10_size 8 = .ok (.imul, 1) := by decide +kernel
theorem dX10_size_9 : decode cX10_size 9 = .ok (.iload_n 2, 1) := by decide +kernel
theorem dX10_size_10 : decode cX10_size 10 = .ok (.iadd, 1) := by decide +kernel
theorem dX10_size_11 : decode cX10_size 11 = .ok (.iaload, 1) := by decide +kernel
theorem dX10_size_12 : decode cX10_size 12 = .ok (.istore_n 3, 1) := by decide +kernel
theorem dX10_size_13 : decode cX10_size 13 = .ok (.iload_n 3, 1) := by decide +kernel
theorem dX10_size_14 : decode cX10_size 14 = .ok (.iload_n 3, 1) := by decide +kernel
theorem dX10_size_15 : decode cX10_size 15 = .ok (.bipush 33, 2) := by decide +kernel
theorem dX10_size_17 : decode cX10_size 17 = .ok (.if_icmp .ne 20, 3) := by decide +kernel
theorem dX10_size_20 : decode cX10_size 20 = .ok (.aload_n 0, 1) := by decide +kernel
theorem dX10_size_21 : decode cX10_size 21 = .ok (.getfield 26, 3) := by decide +kernel
theorem dX10_size_24 : decode cX10_size 24 = .ok (.sipush 400, 3) := by decide +kernel
theorem dX10_size_27 : decode cX10_size 27 = .ok (.iload_n 1, 1) := by decide +kernel
theorem dX10_size_28 : decode cX10_size 28 = .ok (.imul, 1) := by decide +kernel
theorem dX10_size_29 : decode cX10_size 29 = .ok (.iload_n 2, 1) := by decide +kernel
theorem dX10_size_30 : decode cX10_size 30 = .ok (.iadd, 1) := by decide +kernel
theorem dX10_size_31 : decode cX10_size 31 = .ok (.iconst 1, 1) := by decide +kernel
theorem dX10_size_32 : decode cX10_size 32 = .ok (.iadd, 1) := by decide +kernel
theorem dX10_size_33 : decode cX10_size 33 = .ok (.iaload, 1) := by decide +kernel
theorem dX10_size_34 : decode cX10_size 34 = .ok (.goto 4, 3) := by decide +kernel
theorem dX10_size_37 : decode cX10_size 37 = .ok (.iconst 0, 1) := by decide +kernel
theorem dX10_size_38 : decode cX10_size 38 = .ok (.invokestatic 222, 3) := by decide +kernel
theorem dX10_size_41 : decode cX10_size 41 = .ok (.ireturn, 1) := by decide +kernel
theorem dX10_isJump_0 : decode cX10_isJump 0 = .ok (.iload_n 0, 1) := by decide +kernel
theorem dX10_isJump_1 : decode cX10_isJump 1 = .ok (.bipush 20, 2) := by decide +kernel
theorem dX10_isJump_3 : decode cX10_isJump 3 = .ok (.bipush 32, 2) := by decide +kernel
theorem dX10_isJump_5 : decode cX10_isJump 5 = .ok (.invokestatic 217, 3) := by decide +kernel
theorem dX10_isJump_8 : decode cX10_isJump 8 = .ok (.ifCond .ne 14, 3) := by decide +kernel
theorem dX10_isJump_11 : decode cX10_isJump 11 = .ok (.iload_n 0, 1) := by decide +kernel
theorem dX10_isJump_12 : decode cX10_isJump 12 = .ok (.bipush 84, 2) := by decide +kernel
theorem dX10_isJump_14 : decode cX10_isJump 14 = .ok (.bipush 96, 2) := by decide +kernel
theorem dX10_isJump_16 : decode cX10_isJump 16 = .ok (.invokestatic 217, 3) := by decide +kernel
theorem dX10_isJump_19 : decode cX10_isJump 19 = .ok (.ifCond .eq 7, 3) := by decide +kernel
theorem dX10_isJump_22 : decode cX10_isJump 22 = .ok (.iconst 1, 1) := by decide +kernel
theorem dX10_isJump_23 : decode cX10_isJump 23 = .ok (.goto 4, 3) := by decide +kernel
theorem dX10_isJump_26 : decode cX10_isJump 26 = .ok (.iconst 0, 1) := by decide +kernel
theorem dX10_isJump_27 : decode cX10_isJump 27 = .ok (.ireturn, 1) := by decide +kernel
theorem dX10_leads_0 : decode cX10_leads 0 = .ok (.sipush 400, 3) := by decide +kernel
theorem dX10_leads_3 : decode cX10_leads 3 = .ok (.iload_n 1, 1) := by decide +kernel
theorem dX10_leads_4 : decode cX10_leads 4 = .ok (.imul, 1) := by decide +kernel
theorem dX10_leads_5 : decode cX10_leads 5 = .ok (.iload_n 2, 1) := by decide +kernel
theorem dX10_leads_6 : decode cX10_leads 6 = .ok (.iadd, 1) := by decide +kernel
theorem dX10_leads_7 : decode cX10_leads 7 = .ok (.istore 4, 2) := by decide +kernel
theorem dX10_leads_9 : decode cX10_leads 9 = .ok (.aload_n 0, 1) := by decide +kernel
theorem dX10_leads_10 : decode cX10_leads 10 = .ok (.getfield 26, 3) := by decide +kernel
theorem dX10_leads_13 : decode cX10_leads 13 = .ok (.iload 4, 2) := by decide +kernel
theorem dX10_leads_15 : decode cX10_leads 15 = .ok (.iaload, 1) := by decide +kernel
theorem dX10_leads_16 : decode cX10_leads 16 = .ok (.istore 5, 2) := by decide +kernel
theorem dX10_leads_18 : decode cX10_leads 18 = .ok (.iload 5, 2) := by decide +kernel
theorem dX10_leads_20 : decode cX10_leads 20 = .ok (.bipush 33, 2) := by decide +kernel
theorem dX10_leads_22 : decode cX10_leads 22 = .ok (.if_icmp .ne 35, 3) := by decide +kernel
theorem dX10_leads_25 : decode cX10_leads 25 = .ok (.iload_n 2, 1) := by decide +kernel
theorem dX10_leads_26 : decode cX10_leads 26 = .ok (.aload_n 0, 1) := by decide +kernel
theorem dX10_leads_27 : decode cX10_leads 27 = .ok (.getfield 26, 3) := by decide +kernel
theorem dX10_leads_30 : decode cX10_leads 30 = .ok (.iload 4, 2) := by decide +kernel
theorem dX10_leads_32 : decode cX10_leads 32 = .ok (.iconst 2, 1) := by decide +kernel
theorem dX10_leads_33 : decode cX10_leads 33 = .ok (.iadd, 1) := by decide +kernel
theorem dX10_leads_34 : decode cX10_leads 34 = .ok (.iconst 2, 1) := by decide +kernel
theorem dX10_leads_35 : decode cX10_leads 35 = .ok (.iload_n 3, 1) := by decide +kernel
theorem dX10_leads_36 : decode cX10_leads 36 = .ok (.imul, 1) := by decide +kernel
theorem dX10_leads_37 : decode cX10_leads 37 = .ok (.iadd, 1) := by decide +kernel
theorem dX10_leads_38 : decode cX10_leads 38 = .ok (.iaload, 1) := by decide +kernel
theorem dX10_leads_39 : decode cX10_leads 39 = .ok (.aload_n 0, 1) := by decide +kernel
theorem dX10_leads_40 : decode cX10_leads 40 = .ok (.getfield 26, 3) := by decide +kernel
theorem dX10_leads_43 : decode cX10_leads 43 = .ok (.iload 4, 2) := by decide +kernel
theorem dX10_leads_45 : decode cX10_leads 45 = .ok (.iconst 3, 1) := by decide +kernel
theorem dX10_leads_46 : decode cX10_leads 46 = .ok (.iadd, 1) := by decide +kernel
theorem dX10_leads_47 : decode cX10_leads 47 = .ok (.iconst 2, 1) := by decide +kernel
theorem dX10_leads_48 : decode cX10_leads 48 = .ok (.iload_n 3, 1) := by decide +kernel
theorem dX10_leads_49 : decode cX10_leads 49 = .ok (.imul, 1) := by decide +kernel
theorem dX10_leads_50 : decode cX10_leads 50 = .ok (.iadd, 1) := by decide +kernel
theorem dX10_leads_51 : decode cX10_leads 51 = .ok (.iaload, 1) := by decide +kernel
theorem dX10_leads_52 : decode cX10_leads 52 = .ok (.invokestatic 226, 3) := by decide +kernel
theorem dX10_leads_55 : decode cX10_leads 55 = .ok (.iadd, 1) := by decide +kernel
theorem dX10_leads_56 : decode cX10_leads 56 = .ok (.ireturn, 1) := by decide +kernel
theorem dX10_leads_57 : decode cX10_leads 57 = .ok (.iload_n 2, 1) := by decide +kernel
theorem dX10_leads_58 : decode cX10_leads 58 = .ok (.iload 5, 2) := by decide +kernel
theorem dX10_leads_60 : decode cX10_leads 60 = .ok (.bipush 33, 2) := by decide +kernel
theorem dX10_leads_62 : decode cX10_leads 62 = .ok (.if_icmp .ge 18, 3) := by decide +kernel
theorem dX10_leads_65 : decode cX10_leads 65 = .ok (.aload_n 0, 1) := by decide +kernel
theorem dX10_leads_66 : decode cX10_leads 66 = .ok (.getfield 26, 3) := by decide +kernel
theorem dX10_leads_69 : decode cX10_leads 69 = .ok (.iload 4, 2) := by decide +kernel
theorem dX10_leads_71 : decode cX10_leads 71 = .ok (.iconst 1, 1) := by decide +kernel
theorem dX10_leads_72 : decode cX10_leads 72 = .ok (.iadd, 1) := by decide +kernel
theorem dX10_leads_73 : decode cX10_leads 73 = .ok (.iaload, 1) := by decide +kernel
theorem dX10_leads_74 : decode cX10_leads 74 = .ok (.invokestatic 229, 3) := by decide +kernel
theorem dX10_leads_77 : decode cX10_leads 77 = .ok (.goto 24, 3) := by decide +kernel
theorem dX10_leads_80 : decode cX10_leads 80 = .ok (.aload_n 0, 1) := by decide +kernel
theorem dX10_leads_81 : decode cX10_leads 81 = .ok (.getfield 26, 3) := by decide +kernel
theorem dX10_leads_84 : decode cX10_leads 84 = .ok (.iload 4, 2) := by decide +kernel
theorem dX10_leads_86 : decode cX10_leads 86 = .ok (.iconst 1, 1) := by decide +kernel
theorem dX10_leads_87 : decode cX10_leads 87 = .ok (.iadd, 1) := by decide +kernel
theorem dX10_leads_88 : decode cX10_leads 88 = .ok (.iaload, 1) := by decide +kernel
theorem dX10_leads_89 : decode cX10_leads 89 = .ok (.aload_n 0, 1) := by decide +kernel
theorem dX10_leads_90 : decode cX10_leads 90 = .ok (.getfield 26, 3) := by decide +kernel
theorem dX10_leads_93 : decode cX10_leads 93 = .ok (.iload 4, 2) := by decide +kernel
theorem dX10_leads_95 : decode cX10_leads 95 = .ok (.iconst 2, 1) := by decide +kernel
