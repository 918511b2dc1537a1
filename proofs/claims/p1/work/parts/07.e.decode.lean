theorem dX10_weave_75 : decode cX10_weave 75 = .ok (.iinc 2 1, 3) := by decide +kernel
theorem dX10_weave_78 : decode cX10_weave 78 = .ok (.goto (-65), 3) := by decide +kernel
theorem dX10_weave_81 : decode cX10_weave 81 = .ok (.iconst 1, 1) := by decide +kernel
theorem dX10_weave_82 : decode cX10_weave 82 = .ok (.istore_n 2, 1) := by decide +kernel
theorem dX10_weave_83 : decode cX10_weave 83 = .ok (.iload_n 2, 1) := by decide +kernel
theorem dX10_weave_84 : decode cX10_weave 84 = .ok (.ifCond .eq 22, 3) := by decide +kernel
theorem dX10_weave_87 : decode cX10_weave 87 = .ok (.aload_n 0, 1) := by decide +kernel
theorem dX10_weave_88 : decode cX10_weave 88 = .ok (.iload_n 1, 1) := by decide +kernel
theorem dX10_weave_89 : decode cX10_weave 89 = .ok (.invokevirtual 347, 3) := by decide +kernel
theorem dX10_weave_92 : decode cX10_weave 92 = .ok (.aload_n 0, 1) := by decide +kernel
theorem dX10_weave_93 : decode cX10_weave 93 = .ok (.iload_n 1, 1) := by decide +kernel
theorem dX10_weave_94 : decode cX10_weave 94 = .ok (.invokevirtual 347, 3) := by decide +kernel
theorem dX10_weave_97 : decode cX10_weave 97 = .ok (.aload_n 0, 1) := by decide +kernel
theorem dX10_weave_98 : decode cX10_weave 98 = .ok (.iload_n 1, 1) := by decide +kernel
theorem dX10_weave_99 : decode cX10_weave 99 = .ok (.invokevirtual 350, 3) := by decide +kernel
theorem dX10_weave_102 : decode cX10_weave 102 = .ok (.istore_n 2, 1) := by decide +kernel
theorem dX10_weave_103 : decode cX10_weave 103 = .ok (.goto (-20), 3) := by decide +kernel
theorem dX10_weave_106 : decode cX10_weave 106 = .ok (.aload_n 0, 1) := by decide +kernel
theorem dX10_weave_107 : decode cX10_weave 107 = .ok (.getfield 341, 3) := by decide +kernel
theorem dX10_weave_110 : decode cX10_weave 110 = .ok (.sipush 1000, 3) := by decide +kernel
theorem dX10_weave_113 : decode cX10_weave 113 = .ok (.if_icmp .le 6, 3) := by decide +kernel
theorem dX10_weave_116 : decode cX10_weave 116 = .ok (.bipush (-3), 2) := by decide +kernel
theorem dX10_weave_118 : decode cX10_weave 118 = .ok (.ireturn, 1) := by decide +kernel
theorem dX10_weave_119 : decode cX10_weave 119 = .ok (.aload_n 0, 1) := by decide +kernel
theorem dX10_weave_120 : decode cX10_weave 120 = .ok (.iload_n 1, 1) := by decide +kernel
theorem dX10_weave_121 : decode cX10_weave 121 = .ok (.invokevirtual 353, 3) := by decide +kernel
theorem dX10_weave_124 : decode cX10_weave 124 = .ok (.aload_n 0, 1) := by decide +kernel
theorem dX10_weave_125 : decode cX10_weave 125 = .ok (.getfield 78, 3) := by decide +kernel
theorem dX10_weave_128 : decode cX10_weave 128 = .ok (.iload_n 1, 1) := by decide +kernel
theorem dX10_weave_129 : decode cX10_weave 129 = .ok (.iaload, 1) := by decide +kernel
theorem dX10_weave_130 : decode cX10_weave 130 = .ok (.ireturn, 1) := by decide +kernel
theorem dX10_unweave_0 : decode cX10_unweave 0 = .ok (.aload_n 0, 1) := by decide +kernel
theorem dX10_unweave_1 : decode cX10_unweave 1 = .ok (.iload_n 1, 1) := by decide +kernel
theorem dX10_unweave_2 : decode cX10_unweave 2 = .ok (.invokevirtual 318, 3) := by decide +kernel
theorem dX10_unweave_5 : decode cX10_unweave 5 = .ok (.ifCond .ne 6, 3) := by decide +kernel
theorem dX10_unweave_8 : decode cX10_unweave 8 = .ok (.bipush (-2), 2) := by decide +kernel
theorem dX10_unweave_10 : decode cX10_unweave 10 = .ok (.ireturn, 1) := by decide +kernel
theorem dX10_unweave_11 : decode cX10_unweave 11 = .ok (.aload_n 0, 1) := by decide +kernel
theorem dX10_unweave_12 : decode cX10_unweave 12 = .ok (.iload_n 1, 1) := by decide +kernel
theorem dX10_unweave_13 : decode cX10_unweave 13 = .ok (.invokevirtual 325, 3) := by decide +kernel
theorem dX10_unweave_16 : decode cX10_unweave 16 = .ok (.ifCond .eq 7, 3) := by decide +kernel
theorem dX10_unweave_19 : decode cX10_unweave 19 = .ok (.iconst 1, 1) := by decide +kernel
theorem dX10_unweave_20 : decode cX10_unweave 20 = .ok (.goto 4, 3) := by decide +kernel
theorem dX10_unweave_23 : decode cX10_unweave 23 = .ok (.iconst 0, 1) := by decide +kernel
theorem dX10_unweave_24 : decode cX10_unweave 24 = .ok (.istore_n 2, 1) := by decide +kernel
theorem dX10_unweave_25 : decode cX10_unweave 25 = .ok (.aload_n 0, 1) := by decide +kernel
theorem dX10_unweave_26 : decode cX10_unweave 26 = .ok (.getfield 72, 3) := by decide +kernel
theorem dX10_unweave_29 : decode cX10_unweave 29 = .ok (.iload_n 1, 1) := by decide +kernel
theorem dX10_unweave_30 : decode cX10_unweave 30 = .ok (.iconst (-1), 1) := by decide +kernel
theorem dX10_unweave_31 : decode cX10_unweave 31 = .ok (.iastore, 1) := by decide +kernel
theorem dX10_unweave_32 : decode cX10_unweave 32 = .ok (.iload_n 2, 1) := by decide +kernel
theorem dX10_unweave_33 : decode cX10_unweave 33 = .ok (.ireturn, 1) := by decide +kernel
theorem dX10_layAll_0 : decode cX10_layAll 0 = .ok (.aload_n 0, 1) := by decide +kernel
theorem dX10_layAll_1 : decode cX10_layAll 1 = .ok (.iconst 0, 1) := by decide +kernel
theorem dX10_layAll_2 : decode cX10_layAll 2 = .ok (.putfield 341, 3) := by decide +kernel
theorem dX10_layAll_5 : decode cX10_layAll 5 = .ok (.aload_n 0, 1) := by decide +kernel
theorem dX10_layAll_6 : decode cX10_layAll 6 = .ok (.iconst 0, 1) := by decide +kernel
theorem dX10_layAll_7 : decode cX10_layAll 7 = .ok (.putfield 356, 3) := by decide +kernel
theorem dX10_layAll_10 : decode cX10_layAll 10 = .ok (.iconst 0, 1) := by decide +kernel
theorem dX10_layAll_11 : decode cX10_layAll 11 = .ok (.istore_n 2, 1) := by decide +kernel
theorem dX10_layAll_12 : decode cX10_layAll 12 = .ok (.iload_n 2, 1) := by decide +kernel
theorem dX10_layAll_13 : decode cX10_layAll 13 = .ok (.aload_n 0, 1) := by decide +kernel
theorem dX10_layAll_14 : decode cX10_layAll 14 = .ok (.getfield 335, 3) := by decide +kernel
theorem dX10_layAll_17 : decode cX10_layAll 17 = .ok (.if_icmp .ge 31, 3) := by decide +kernel
theorem dX10_layAll_20 : decode cX10_layAll 20 = .ok (.aload_n 0, 1) := by decide +kernel
theorem dX10_layAll_21 : decode cX10_layAll 21 = .ok (.iload_n 2, 1) := by decide +kernel
theorem dX10_layAll_22 : decode cX10_layAll 22 = .ok (.iconst 2, 1) := by decide +kernel
theorem dX10_layAll_23 : decode cX10_layAll 23 = .ok (.iload_n 1, 1) := by decide +kernel
theorem dX10_layAll_24 : decode cX10_layAll 24 = .ok (.iconst 0, 1) := by decide +kernel
theorem dX10_layAll_25 : decode cX10_layAll 25 = .ok (.aload_n 0, 1) := by decide +kernel
theorem dX10_layAll_26 : decode cX10_layAll 26 = .ok (.getfield 335, 3) := by decide +kernel
theorem dX10_layAll_29 : decode cX10_layAll 29 = .ok (.invokevirtual 338, 3) := by decide +kernel
theorem dX10_layAll_32 : decode cX10_layAll 32 = .ok (.ifCond .eq 10, 3) := by decide +kernel
theorem dX10_layAll_35 : decode cX10_layAll 35 = .ok (.aload_n 0, 1) := by decide +kernel
theorem dX10_layAll_36 : decode cX10_layAll 36 = .ok (.bipush 50, 2) := by decide +kernel
theorem dX10_layAll_38 : decode cX10_layAll 38 = .ok (.iload_n 2, 1) := by decide +kernel
theorem dX10_layAll_39 : decode cX10_layAll 39 = .ok (.invokevirtual 359, 3) := by decide +kernel
theorem dX10_layAll_42 : decode cX10_layAll 42 = .ok (.iinc 2 1, 3) := by decide +kernel
theorem dX10_layAll_45 : decode cX10_layAll 45 = .ok (.goto (-33), 3) := by decide +kernel
theorem dX10_layAll_48 : decode cX10_layAll 48 = .ok (.iconst 0, 1) := by decide +kernel
theorem dX10_layAll_49 : decode cX10_layAll 49 = .ok (.istore_n 2, 1) := by decide +kernel
theorem dX10_layAll_50 : decode cX10_layAll 50 = .ok (.iload_n 2, 1) := by decide +kernel
theorem dX10_layAll_51 : decode cX10_layAll 51 = .ok (.aload_n 0, 1) := by decide +kernel
theorem dX10_layAll_52 : decode cX10_layAll 52 = .ok (.getfield 23, 3) := by decide +kernel
theorem dX10_layAll_55 : decode cX10_layAll 55 = .ok (.iload_n 1, 1) := by decide +kernel
theorem dX10_layAll_56 : decode cX10_layAll 56 = .ok (.iaload, 1) := by decide +kernel
theorem dX10_layAll_57 : decode cX10_layAll 57 = .ok (.if_icmp .ge 30, 3) := by decide +kernel
theorem dX10_layAll_60 : decode cX10_layAll 60 = .ok (.aload_n 0, 1) := by decide +kernel
theorem dX10_layAll_61 : decode cX10_layAll 61 = .ok (.getfield 44, 3) := by decide +kernel
theorem dX10_layAll_64 : decode cX10_layAll 64 = .ok (.sipush 400, 3) := by decide +kernel
theorem dX10_layAll_67 : decode cX10_layAll 67 = .ok (.iload_n 1, 1) := by decide +kernel
theorem dX10_layAll_68 : decode cX10_layAll 68 = .ok (.imul, 1) := by decide +kernel
theorem dX10_layAll_69 : decode cX10_layAll 69 = .ok (.iload_n 2, 1) := by decide +kernel
theorem dX10_layAll_70 : decode cX10_layAll 70 = .ok (.iadd, 1) := by decide +kernel
theorem dX10_layAll_71 : decode cX10_layAll 71 = .ok (.baload, 1) := by decide +kernel
theorem dX10_layAll_72 : decode cX10_layAll 72 = .ok (.ifCond .eq 9, 3) := by decide +kernel
theorem dX10_layAll_75 : decode cX10_layAll 75 = .ok (.aload_n 0, 1) := by decide +kernel
theorem dX10_layAll_76 : decode cX10_layAll 76 = .ok (.iload_n 1, 1) := by decide +kernel
theorem dX10_layAll_77 : decode cX10_layAll 77 = .ok (.iload_n 2, 1) := by decide +kernel
theorem dX10_layAll_78 : decode cX10_layAll 78 = .ok (.invokevirtual 362, 3) := by decide +kernel
theorem dX10_layAll_81 : decode cX10_layAll 81 = .ok (.iinc 2 1, 3) := by decide +kernel
theorem dX10_layAll_84 : decode cX10_layAll 84 = .ok (.goto (-34), 3) := by decide +kernel
theorem dX10_layAll_87 : decode cX10_layAll 87 = .ok (.aload_n 0, 1) := by decide +kernel
theorem dX10_layAll_88 : decode cX10_layAll 88 = .ok (.getfield 120, 3) := by decide +kernel
theorem dX10_layAll_91 : decode cX10_layAll 91 = .ok (.aload_n 0, 1) := by decide +kernel
theorem dX10_layAll_92 : decode cX10_layAll 92 = .ok (.getfield 23, 3) := by decide +kernel
theorem dX10_layAll_95 : decode cX10_layAll 95 = .ok (.iload_n 1, 1) := by decide +kernel
theorem dX10_layAll_96 : decode cX10_layAll 96 = .ok (.iaload, 1) := by decide +kernel
theorem dX10_layAll_97 : decode cX10_layAll 97 = .ok (.aload_n 0, 1) := by decide +kernel
theorem dX10_layAll_98 : decode cX10_layAll 98 = .ok (.getfield 341, 3) := by decide +kernel
theorem dX10_layAll_101 : decode cX10_layAll 101 = .ok (.iastore, 1) := by decide +kernel
theorem dX10_layAll_102 : decode cX10_layAll 102 = .ok (.iconst 0, 1) := by decide +kernel
theorem dX10_layAll_103 : decode cX10_layAll 103 = .ok (.istore_n 2, 1) := by decide +kernel
theorem dX10_layAll_104 : decode cX10_layAll 104 = .ok (.iload_n 2, 1) := by decide +kernel
theorem dX10_layAll_105 : decode cX10_layAll 105 = .ok (.aload_n 0, 1) := by decide +kernel
theorem dX10_layAll_106 : decode cX10_layAll 106 = .ok (.getfield 23, 3) := by decide +kernel
theorem dX10_layAll_109 : decode cX10_layAll 109 = .ok (.iload_n 1, 1) := by decide +kernel
theorem dX10_layAll_110 : decode cX10_layAll 110 = .ok (.iaload, 1) := by decide +kernel
theorem dX10_layAll_111 : decode cX10_layAll 111 = .ok (.if_icmp .ge 52, 3) := by decide +kernel
theorem dX10_layAll_114 : decode cX10_layAll 114 = .ok (.aload_n 0, 1) := by decide +kernel
theorem dX10_layAll_115 : decode cX10_layAll 115 = .ok (.getfield 44, 3) := by decide +kernel
theorem dX10_layAll_118 : decode cX10_layAll 118 = .ok (.sipush 400, 3) := by decide +kernel
theorem dX10_layAll_121 : decode cX10_layAll 121 = .ok (.iload_n 1, 1) := by decide +kernel
theorem dX10_layAll_122 : decode cX10_layAll 122 = .ok (.imul, 1) := by decide +kernel
theorem dX10_layAll_123 : decode cX10_layAll 123 = .ok (.iload_n 2, 1) := by decide +kernel
theorem dX10_layAll_124 : decode cX10_layAll 124 = .ok (.iadd, 1) := by decide +kernel
theorem dX10_layAll_125 : decode cX10_layAll 125 = .ok (.baload, 1) := by decide +kernel
theorem dX10_layAll_126 : decode cX10_layAll 126 = .ok (.ifCond .eq 31, 3) := by decide +kernel
theorem dX10_layAll_129 : decode cX10_layAll 129 = .ok (.aload_n 0, 1) := by decide +kernel
theorem dX10_layAll_130 : decode cX10_layAll 130 = .ok (.iconst 1, 1) := by decide +kernel
theorem dX10_layAll_131 : decode cX10_layAll 131 = .ok (.iload_n 1, 1) := by decide +kernel
theorem dX10_layAll_132 : decode cX10_layAll 132 = .ok (.iload_n 2, 1) := by decide +kernel
theorem dX10_layAll_133 : decode cX10_layAll 133 = .ok (.aload_n 0, 1) := by decide +kernel
theorem dX10_layAll_134 : decode cX10_layAll 134 = .ok (.getfield 335, 3) := by decide +kernel
theorem dX10_layAll_137 : decode cX10_layAll 137 = .ok (.invokevirtual 365, 3) := by decide +kernel
theorem dX10_layAll_140 : decode cX10_layAll 140 = .ok (.ifCond .le 17, 3) := by decide +kernel
theorem dX10_layAll_143 : decode cX10_layAll 143 = .ok (.aload_n 0, 1) := by decide +kernel
theorem dX10_layAll_144 : decode cX10_layAll 144 = .ok (.iload_n 1, 1) := by decide +kernel
theorem dX10_layAll_145 : decode cX10_layAll 145 = .ok (.iconst 1, 1) := by decide +kernel
theorem dX10_layAll_146 : decode cX10_layAll 146 = .ok (.iload_n 2, 1) := by decide +kernel
theorem dX10_layAll_147 : decode cX10_layAll 147 = .ok (.aload_n 0, 1) := by decide +kernel
theorem dX10_layAll_148 : decode cX10_layAll 148 = .ok (.iload_n 1, 1) := by decide +kernel
theorem dX10_layAll_149 : decode cX10_layAll 149 = .ok (.iload_n 2, 1) := by decide +kernel
theorem dX10_layAll_150 : decode cX10_layAll 150 = .ok (.iconst 0, 1) := by decide +kernel
theorem dX10_layAll_151 : decode cX10_layAll 151 = .ok (.invokevirtual 271, 3) := by decide +kernel
theorem dX10_layAll_154 : decode cX10_layAll 154 = .ok (.invokevirtual 369, 3) := by decide +kernel
theorem dX10_layAll_157 : decode cX10_layAll 157 = .ok (.iinc 2 1, 3) := by decide +kernel
theorem dX10_layAll_160 : decode cX10_layAll 160 = .ok (.goto (-56), 3) := by decide +kernel
theorem dX10_layAll_163 : decode cX10_layAll 163 = .ok (.iconst 0, 1) := by decide +kernel
theorem dX10_layAll_164 : decode cX10_layAll 164 = .ok (.istore_n 2, 1) := by decide +kernel
theorem dX10_layAll_165 : decode cX10_layAll 165 = .ok (.iload_n 2, 1) := by decide +kernel
theorem dX10_layAll_166 : decode cX10_layAll 166 = .ok (.aload_n 0, 1) := by decide +kernel
theorem dX10_layAll_167 : decode cX10_layAll 167 = .ok (.getfield 29, 3) := by decide +kernel
theorem dX10_layAll_170 : decode cX10_layAll 170 = .ok (.iload_n 1, 1) := by decide +kernel
theorem dX10_layAll_171 : decode cX10_layAll 171 = .ok (.iaload, 1) := by decide +kernel
theorem dX10_layAll_172 : decode cX10_layAll 172 = .ok (.if_icmp .ge 61, 3) := by decide +kernel
theorem dX10_layAll_175 : decode cX10_layAll 175 = .ok (.aload_n 0, 1) := by decide +kernel
theorem dX10_layAll_176 : decode cX10_layAll 176 = .ok (.iconst 5, 1) := by decide +kernel
theorem dX10_layAll_177 : decode cX10_layAll 177 = .ok (.iload_n 1, 1) := by decide +kernel
theorem dX10_layAll_178 : decode cX10_layAll 178 = .ok (.aload_n 0, 1) := by decide +kernel
theorem dX10_layAll_179 : decode cX10_layAll 179 = .ok (.getfield 38, 3) := by decide +kernel
theorem dX10_layAll_182 : decode cX10_layAll 182 = .ok (.bipush 8, 2) := by decide +kernel
theorem dX10_layAll_184 : decode cX10_layAll 184 = .ok (.iload_n 1, 1) := by decide +kernel
theorem dX10_layAll_185 : decode cX10_layAll 185 = .ok (.imul, 1) := by decide +kernel
theorem dX10_layAll_186 : decode cX10_layAll 186 = .ok (.iload_n 2, 1) := by decide +kernel
theorem dX10_layAll_187 : decode cX10_layAll 187 = .ok (.iadd, 1) := by decide +kernel
theorem dX10_layAll_188 : decode cX10_layAll 188 = .ok (.iaload, 1) := by decide +kernel
theorem dX10_layAll_189 : decode cX10_layAll 189 = .ok (.aload_n 0, 1) := by decide +kernel
theorem dX10_layAll_190 : decode cX10_layAll 190 = .ok (.getfield 335, 3) := by decide +kernel
theorem dX10_layAll_193 : decode cX10_layAll 193 = .ok (.invokevirtual 365, 3) := by decide +kernel
theorem dX10_layAll_196 : decode cX10_layAll 196 = .ok (.ifCond .le 31, 3) := by decide +kernel
theorem dX10_layAll_199 : decode cX10_layAll 199 = .ok (.aload_n 0, 1) := by decide +kernel
theorem dX10_layAll_200 : decode cX10_layAll 200 = .ok (.iload_n 1, 1) := by decide +kernel
theorem dX10_layAll_201 : decode cX10_layAll 201 = .ok (.iconst 5, 1) := by decide +kernel
theorem dX10_layAll_202 : decode cX10_layAll 202 = .ok (.aload_n 0, 1) := by decide +kernel
theorem dX10_layAll_203 : decode cX10_layAll 203 = .ok (.getfield 38, 3) := by decide +kernel
theorem dX10_layAll_206 : decode cX10_layAll 206 = .ok (.bipush 8, 2) := by decide +kernel
theorem dX10_layAll_208 : decode cX10_layAll 208 = .ok (.iload_n 1, 1) := by decide +kernel
theorem dX10_layAll_209 : decode cX10_layAll 209 = .ok (.imul, 1) := by decide +kernel
theorem dX10_layAll_210 : decode cX10_layAll 210 = .ok (.iload_n 2, 1) := by decide +kernel
theorem dX10_layAll_211 : decode cX10_layAll 211 = .ok (.iadd, 1) := by decide +kernel
theorem dX10_layAll_212 : decode cX10_layAll 212 = .ok (.iaload, 1) := by decide +kernel
theorem dX10_layAll_213 : decode cX10_layAll 213 = .ok (.aload_n 0, 1) := by decide +kernel
theorem dX10_layAll_214 : decode cX10_layAll 214 = .ok (.getfield 38, 3) := by decide +kernel
theorem dX10_layAll_217 : decode cX10_layAll 217 = .ok (.bipush 8, 2) := by decide +kernel
theorem dX10_layAll_219 : decode cX10_layAll 219 = .ok (.iload_n 1, 1) := by decide +kernel
theorem dX10_layAll_220 : decode cX10_layAll 220 = .ok (.imul, 1) := by decide +kernel
theorem dX10_layAll_221 : decode cX10_layAll 221 = .ok (.iload_n 2, 1) := by decide +kernel
theorem dX10_layAll_222 : decode cX10_layAll 222 = .ok (.iadd, 1) := by decide +kernel
theorem dX10_layAll_223 : decode cX10_layAll 223 = .ok (.iaload, 1) := by decide +kernel
theorem dX10_layAll_224 : decode cX10_layAll 224 = .ok (.invokevirtual 369, 3) := by decide +kernel
theorem dX10_layAll_227 : decode cX10_layAll 227 = .ok (.iinc 2 1, 3) := by decide +kernel
theorem dX10_layAll_230 : decode cX10_layAll 230 = .ok (.goto (-65), 3) := by decide +kernel
theorem dX10_layAll_233 : decode cX10_layAll 233 = .ok (.aload_n 0, 1) := by decide +kernel
theorem dX10_layAll_234 : decode cX10_layAll 234 = .ok (.aload_n 0, 1) := by decide +kernel
theorem dX10_layAll_235 : decode cX10_layAll 235 = .ok (.getfield 341, 3) := by decide +kernel
theorem dX10_layAll_238 : decode cX10_layAll 238 = .ok (.putfield 373, 3) := by decide +kernel
theorem dX10_layAll_241 : decode cX10_layAll 241 = .ok (.iconst 0, 1) := by decide +kernel
theorem dX10_layAll_242 : decode cX10_layAll 242 = .ok (.istore_n 2, 1) := by decide +kernel
theorem dX10_layAll_243 : decode cX10_layAll 243 = .ok (.iload_n 2, 1) := by decide +kernel
theorem dX10_layAll_244 : decode cX10_layAll 244 = .ok (.aload_n 0, 1) := by decide +kernel
theorem dX10_layAll_245 : decode cX10_layAll 245 = .ok (.getfield 335, 3) := by decide +kernel
theorem dX10_layAll_248 : decode cX10_layAll 248 = .ok (.if_icmp .ge 31, 3) := by decide +kernel
theorem dX10_layAll_251 : decode cX10_layAll 251 = .ok (.aload_n 0, 1) := by decide +kernel
theorem dX10_layAll_252 : decode cX10_layAll 252 = .ok (.iload_n 2, 1) := by decide +kernel
theorem dX10_layAll_253 : decode cX10_layAll 253 = .ok (.iconst 3, 1) := by decide +kernel
theorem dX10_layAll_254 : decode cX10_layAll 254 = .ok (.iload_n 1, 1) := by decide +kernel
theorem dX10_layAll_255 : decode cX10_layAll 255 = .ok (.iconst 0, 1) := by decide +kernel
theorem dX10_layAll_256 : decode cX10_layAll 256 = .ok (.aload_n 0, 1) := by decide +kernel
theorem dX10_layAll_257 : decode cX10_layAll 257 = .ok (.getfield 335, 3) := by decide +kernel
theorem dX10_layAll_260 : decode cX10_layAll 260 = .ok (.invokevirtual 338, 3) := by decide +kernel
theorem dX10_layAll_263 : decode cX10_layAll 263 = .ok (.ifCond .eq 10, 3) := by decide +kernel
theorem dX10_layAll_266 : decode cX10_layAll 266 = .ok (.aload_n 0, 1) := by decide +kernel
theorem dX10_layAll_267 : decode cX10_layAll 267 = .ok (.bipush 52, 2) := by decide +kernel
theorem dX10_layAll_269 : decode cX10_layAll 269 = .ok (.iload_n 2, 1) := by decide +kernel
theorem dX10_layAll_270 : decode cX10_layAll 270 = .ok (.invokevirtual 359, 3) := by decide +kernel
theorem dX10_layAll_273 : decode cX10_layAll 273 = .ok (.iinc 2 1, 3) := by decide +kernel
theorem dX10_layAll_276 : decode cX10_layAll 276 = .ok (.goto (-33), 3) := by decide +kernel
theorem dX10_layAll_279 : decode cX10_layAll 279 = .ok (.aload_n 0, 1) := by decide +kernel
theorem dX10_layAll_280 : decode cX10_layAll 280 = .ok (.getfield 341, 3) := by decide +kernel
theorem dX10_layAll_283 : decode cX10_layAll 283 = .ok (.aload_n 0, 1) := by decide +kernel
theorem dX10_layAll_284 : decode cX10_layAll 284 = .ok (.getfield 373, 3) := by decide +kernel
theorem dX10_layAll_287 : decode cX10_layAll 287 = .ok (.if_icmp .le 9, 3) := by decide +kernel
theorem dX10_layAll_290 : decode cX10_layAll 290 = .ok (.aload_n 0, 1) := by decide +kernel
theorem dX10_layAll_291 : decode cX10_layAll 291 = .ok (.bipush 58, 2) := by decide +kernel
theorem dX10_layAll_293 : decode cX10_layAll 293 = .ok (.invokevirtual 344, 3) := by decide +kernel
theorem dX10_layAll_296 : decode cX10_layAll 296 = .ok (.return_, 1) := by decide +kernel
theorem dX10_group_0 : decode cX10_group 0 = .ok (.aload_n 0, 1) := by decide +kernel
theorem dX10_group_1 : decode cX10_group 1 = .ok (.getfield 26, 3) := by decide +kernel
theorem dX10_group_4 : decode cX10_group 4 = .ok (.sipush 400, 3) := by decide +kernel
theorem dX10_group_7 : decode cX10_group 7 = .ok (.iload_n 1, 1) := by decide +kernel
theorem dX10_group_8 : decode cX10_group 8 = .ok (.imul, 1) := by decide +kernel
theorem dX10_group_9 : decode cX10_group 9 = .ok (.iload_n 2, 1) := by decide +kernel
theorem dX10_group_10 : decode cX10_group 10 = .ok (.iadd, 1) := by decide +kernel
theorem dX10_group_11 : decode cX10_group 11 = .ok (.iaload, 1) := by decide +kernel
theorem dX10_group_12 : decode cX10_group 12 = .ok (.istore_n 3, 1) := by decide +kernel
theorem dX10_group_13 : decode cX10_group 13 = .ok (.aload_n 0, 1) := by decide +kernel
theorem dX10_group_14 : decode cX10_group 14 = .ok (.getfield 120, 3) := by decide +kernel
theorem dX10_group_17 : decode cX10_group 17 = .ok (.iload_n 2, 1) := by decide +kernel
theorem dX10_group_18 : decode cX10_group 18 = .ok (.aload_n 0, 1) := by decide +kernel
theorem dX10_group_19 : decode cX10_group 19 = .ok (.getfield 341, 3) := by decide +kernel
theorem dX10_group_22 : decode cX10_group 22 = .ok (.iastore, 1) := by decide +kernel
theorem dX10_group_23 : decode cX10_group 23 = .ok (.iconst 0, 1) := by decide +kernel
theorem dX10_group_24 : decode cX10_group 24 = .ok (.istore 4, 2) := by decide +kernel
theorem dX10_group_26 : decode cX10_group 26 = .ok (.iload 4, 2) := by decide +kernel
theorem dX10_group_28 : decode cX10_group 28 = .ok (.aload_n 0, 1) := by decide +kernel
theorem dX10_group_29 : decode cX10_group 29 = .ok (.getfield 335, 3) := by decide +kernel
theorem dX10_group_32 : decode cX10_group 32 = .ok (.if_icmp .ge 58, 3) := by decide +kernel
theorem dX10_group_35 : decode cX10_group 35 = .ok (.aload_n 0, 1) := by decide +kernel
theorem dX10_group_36 : decode cX10_group 36 = .ok (.iload 4, 2) := by decide +kernel
theorem dX10_group_38 : decode cX10_group 38 = .ok (.iconst 0, 1) := by decide +kernel
theorem dX10_group_39 : decode cX10_group 39 = .ok (.iload_n 1, 1) := by decide +kernel
theorem dX10_group_40 : decode cX10_group 40 = .ok (.iload_n 2, 1) := by decide +kernel
theorem dX10_group_41 : decode cX10_group 41 = .ok (.aload_n 0, 1) := by decide +kernel
theorem dX10_group_42 : decode cX10_group 42 = .ok (.getfield 335, 3) := by decide +kernel
theorem dX10_group_45 : decode cX10_group 45 = .ok (.invokevirtual 338, 3) := by decide +kernel
theorem dX10_group_48 : decode cX10_group 48 = .ok (.ifCond .eq 11, 3) := by decide +kernel
theorem dX10_group_51 : decode cX10_group 51 = .ok (.aload_n 0, 1) := by decide +kernel
theorem dX10_group_52 : decode cX10_group 52 = .ok (.bipush 48, 2) := by decide +kernel
theorem dX10_group_54 : decode cX10_group 54 = .ok (.iload 4, 2) := by decide +kernel
theorem dX10_group_56 : decode cX10_group 56 = .ok (.invokevirtual 359, 3) := by decide +kernel
theorem dX10_group_59 : decode cX10_group 59 = .ok (.aload_n 0, 1) := by decide +kernel
theorem dX10_group_60 : decode cX10_group 60 = .ok (.iload 4, 2) := by decide +kernel
theorem dX10_group_62 : decode cX10_group 62 = .ok (.bipush 6, 2) := by decide +kernel
theorem dX10_group_64 : decode cX10_group 64 = .ok (.iload_n 1, 1) := by decide +kernel
theorem dX10_group_65 : decode cX10_group 65 = .ok (.iload_n 2, 1) := by decide +kernel
theorem dX10_group_66 : decode cX10_group 66 = .ok (.aload_n 0, 1) := by decide +kernel
theorem dX10_group_67 : decode cX10_group 67 = .ok (.getfield 335, 3) := by decide +kernel
theorem dX10_group_70 : decode cX10_group 70 = .ok (.invokevirtual 338, 3) := by decide +kernel
theorem dX10_group_73 : decode cX10_group 73 = .ok (.ifCond .eq 11, 3) := by decide +kernel
theorem dX10_group_76 : decode cX10_group 76 = .ok (.aload_n 0, 1) := by decide +kernel
theorem dX10_group_77 : decode cX10_group 77 = .ok (.bipush 56, 2) := by decide +kernel
theorem dX10_group_79 : decode cX10_group 79 = .ok (.iload 4, 2) := by decide +kernel
theorem dX10_group_81 : decode cX10_group 81 = .ok (.invokevirtual 359, 3) := by decide +kernel
theorem dX10_group_84 : decode cX10_group 84 = .ok (.iinc 4 1, 3) := by decide +kernel
theorem dX10_group_87 : decode cX10_group 87 = .ok (.goto (-61), 3) := by decide +kernel
theorem dX10_group_90 : decode cX10_group 90 = .ok (.iconst 0, 1) := by decide +kernel
theorem dX10_group_91 : decode cX10_group 91 = .ok (.istore 4, 2) := by decide +kernel
theorem dX10_group_93 : decode cX10_group 93 = .ok (.iload 4, 2) := by decide +kernel
theorem dX10_group_95 : decode cX10_group 95 = .ok (.aload_n 0, 1) := by decide +kernel
theorem dX10_group_96 : decode cX10_group 96 = .ok (.getfield 335, 3) := by decide +kernel
theorem dX10_group_99 : decode cX10_group 99 = .ok (.if_icmp .ge 39, 3) := by decide +kernel
theorem dX10_group_102 : decode cX10_group 102 = .ok (.iload_n 3, 1) := by decide +kernel
theorem dX10_group_103 : decode cX10_group 103 = .ok (.bipush 42, 2) := by decide +kernel
theorem dX10_group_105 : decode cX10_group 105 = .ok (.if_icmp .ne 33, 3) := by decide +kernel
theorem dX10_group_108 : decode cX10_group 108 = .ok (.aload_n 0, 1) := by decide +kernel
theorem dX10_group_109 : decode cX10_group 109 = .ok (.iload 4, 2) := by decide +kernel
theorem dX10_group_111 : decode cX10_group 111 = .ok (.iconst 3, 1) := by decide +kernel
theorem dX10_group_112 : decode cX10_group 112 = .ok (.iload_n 1, 1) := by decide +kernel
theorem dX10_group_113 : decode cX10_group 113 = .ok (.iconst 0, 1) := by decide +kernel
theorem dX10_group_114 : decode cX10_group 114 = .ok (.aload_n 0, 1) := by decide +kernel
theorem dX10_group_115 : decode cX10_group 115 = .ok (.getfield 335, 3) := by decide +kernel
theorem dX10_group_118 : decode cX10_group 118 = .ok (.invokevirtual 338, 3) := by decide +kernel
theorem dX10_group_121 : decode cX10_group 121 = .ok (.ifCond .eq 11, 3) := by decide +kernel
theorem dX10_group_124 : decode cX10_group 124 = .ok (.aload_n 0, 1) := by decide +kernel
theorem dX10_group_125 : decode cX10_group 125 = .ok (.bipush 51, 2) := by decide +kernel
theorem dX10_group_127 : decode cX10_group 127 = .ok (.iload 4, 2) := by decide +kernel
theorem dX10_group_129 : decode cX10_group 129 = .ok (.invokevirtual 359, 3) := by decide +kernel
theorem dX10_group_132 : decode cX10_group 132 = .ok (.iinc 4 1, 3) := by decide +kernel
theorem dX10_group_135 : decode cX10_group 135 = .ok (.goto (-42), 3) := by decide +kernel
theorem dX10_group_138 : decode cX10_group 138 = .ok (.iconst 0, 1) := by decide +kernel
theorem dX10_group_139 : decode cX10_group 139 = .ok (.istore 4, 2) := by decide +kernel
theorem dX10_group_141 : decode cX10_group 141 = .ok (.iload 4, 2) := by decide +kernel
theorem dX10_group_143 : decode cX10_group 143 = .ok (.aload_n 0, 1) := by decide +kernel
theorem dX10_group_144 : decode cX10_group 144 = .ok (.getfield 335, 3) := by decide +kernel
theorem dX10_group_147 : decode cX10_group 147 = .ok (.if_icmp .ge 33, 3) := by decide +kernel
theorem dX10_group_150 : decode cX10_group 150 = .ok (.aload_n 0, 1) := by decide +kernel
theorem dX10_group_151 : decode cX10_group 151 = .ok (.iload 4, 2) := by decide +kernel
theorem dX10_group_153 : decode cX10_group 153 = .ok (.iconst 4, 1) := by decide +kernel
theorem dX10_group_154 : decode cX10_group 154 = .ok (.iload_n 1, 1) := by decide +kernel
theorem dX10_group_155 : decode cX10_group 155 = .ok (.iload_n 2, 1) := by decide +kernel
theorem dX10_group_156 : decode cX10_group 156 = .ok (.aload_n 0, 1) := by decide +kernel
theorem dX10_group_157 : decode cX10_group 157 = .ok (.getfield 335, 3) := by decide +kernel
theorem dX10_group_160 : decode cX10_group 160 = .ok (.invokevirtual 338, 3) := by decide +kernel
theorem dX10_group_163 : decode cX10_group 163 = .ok (.ifCond .eq 11, 3) := by decide +kernel
theorem dX10_group_166 : decode cX10_group 166 = .ok (.aload_n 0, 1) := by decide +kernel
theorem dX10_group_167 : decode cX10_group 167 = .ok (.bipush 53, 2) := by decide +kernel
theorem dX10_group_169 : decode cX10_group 169 = .ok (.iload 4, 2) := by decide +kernel
theorem dX10_group_171 : decode cX10_group 171 = .ok (.invokevirtual 359, 3) := by decide +kernel
theorem dX10_group_174 : decode cX10_group 174 = .ok (.iinc 4 1, 3) := by decide +kernel
theorem dX10_group_177 : decode cX10_group 177 = .ok (.goto (-36), 3) := by decide +kernel
theorem dX10_group_180 : decode cX10_group 180 = .ok (.aload_n 0, 1) := by decide +kernel
theorem dX10_group_181 : decode cX10_group 181 = .ok (.iload_n 1, 1) := by decide +kernel
theorem dX10_group_182 : decode cX10_group 182 = .ok (.iload_n 2, 1) := by decide +kernel
theorem dX10_group_183 : decode cX10_group 183 = .ok (.iload_n 3, 1) := by decide +kernel
theorem dX10_group_184 : decode cX10_group 184 = .ok (.invokevirtual 376, 3) := by decide +kernel
theorem dX10_group_187 : decode cX10_group 187 = .ok (.iconst 0, 1) := by decide +kernel
theorem dX10_group_188 : decode cX10_group 188 = .ok (.istore 4, 2) := by decide +kernel
theorem dX10_group_190 : decode cX10_group 190 = .ok (.iload 4, 2) := by decide +kernel
theorem dX10_group_192 : decode cX10_group 192 = .ok (.aload_n 0, 1) := by decide +kernel
theorem dX10_group_193 : decode cX10_group 193 = .ok (.getfield 335, 3) := by decide +kernel
theorem dX10_group_196 : decode cX10_group 196 = .ok (.if_icmp .ge 87, 3) := by decide +kernel
theorem dX10_group_199 : decode cX10_group 199 = .ok (.aload_n 0, 1) := by decide +kernel
theorem dX10_group_200 : decode cX10_group 200 = .ok (.iload 4, 2) := by decide +kernel
theorem dX10_group_202 : decode cX10_group 202 = .ok (.iconst 4, 1) := by decide +kernel
theorem dX10_group_203 : decode cX10_group 203 = .ok (.iload_n 1, 1) := by decide +kernel
theorem dX10_group_204 : decode cX10_group 204 = .ok (.iload_n 2, 1) := by decide +kernel
theorem dX10_group_205 : decode cX10_group 205 = .ok (.aload_n 0, 1) := by decide +kernel
theorem dX10_group_206 : decode cX10_group 206 = .ok (.getfield 335, 3) := by decide +kernel
theorem dX10_group_209 : decode cX10_group 209 = .ok (.invokevirtual 338, 3) := by decide +kernel
theorem dX10_group_212 : decode cX10_group 212 = .ok (.ifCond .eq 11, 3) := by decide +kernel
theorem dX10_group_215 : decode cX10_group 215 = .ok (.aload_n 0, 1) := by decide +kernel
theorem dX10_group_216 : decode cX10_group 216 = .ok (.bipush 54, 2) := by decide +kernel
theorem dX10_group_218 : decode cX10_group 218 = .ok (.iload 4, 2) := by decide +kernel
theorem dX10_group_220 : decode cX10_group 220 = .ok (.invokevirtual 359, 3) := by decide +kernel
theorem dX10_group_223 : decode cX10_group 223 = .ok (.aload_n 0, 1) := by decide +kernel
theorem dX10_group_224 : decode cX10_group 224 = .ok (.iload 4, 2) := by decide +kernel
theorem dX10_group_226 : decode cX10_group 226 = .ok (.bipush 7, 2) := by decide +kernel
theorem dX10_group_228 : decode cX10_group 228 = .ok (.iload_n 1, 1) := by decide +kernel
theorem dX10_group_229 : decode cX10_group 229 = .ok (.iload_n 2, 1) := by decide +kernel
theorem dX10_group_230 : decode cX10_group 230 = .ok (.aload_n 0, 1) := by decide +kernel
theorem dX10_group_231 : decode cX10_group 231 = .ok (.getfield 335, 3) := by decide +kernel
theorem dX10_group_234 : decode cX10_group 234 = .ok (.invokevirtual 338, 3) := by decide +kernel
theorem dX10_group_237 : decode cX10_group 237 = .ok (.ifCond .eq 11, 3) := by decide +kernel
theorem dX10_group_240 : decode cX10_group 240 = .ok (.aload_n 0, 1) := by decide +kernel
theorem dX10_group_241 : decode cX10_group 241 = .ok (.bipush 57, 2) := by decide +kernel
theorem dX10_group_243 : decode cX10_group 243 = .ok (.iload 4, 2) := by decide +kernel
theorem dX10_group_245 : decode cX10_group 245 = .ok (.invokevirtual 359, 3) := by decide +kernel
theorem dX10_group_248 : decode cX10_group 248 = .ok (.aload_n 0, 1) := by decide +kernel
theorem dX10_group_249 : decode cX10_group 249 = .ok (.iload 4, 2) := by decide +kernel
theorem dX10_group_251 : decode cX10_group 251 = .ok (.iconst 1, 1) := by decide +kernel
theorem dX10_group_252 : decode cX10_group 252 = .ok (.iload_n 1, 1) := by decide +kernel
theorem dX10_group_253 : decode cX10_group 253 = .ok (.iload_n 2, 1) := by decide +kernel
theorem dX10_group_254 : decode cX10_group 254 = .ok (.aload_n 0, 1) := by decide +kernel
theorem dX10_group_255 : decode cX10_group 255 = .ok (.getfield 335, 3) := by decide +kernel
theorem dX10_group_258 : decode cX10_group 258 = .ok (.invokevirtual 338, 3) := by decide +kernel
theorem dX10_group_261 : decode cX10_group 261 = .ok (.ifCond .eq 16, 3) := by decide +kernel
theorem dX10_group_264 : decode cX10_group 264 = .ok (.aload_n 0, 1) := by decide +kernel
theorem dX10_group_265 : decode cX10_group 265 = .ok (.bipush 49, 2) := by decide +kernel
theorem dX10_group_267 : decode cX10_group 267 = .ok (.iload 4, 2) := by decide +kernel
theorem dX10_group_269 : decode cX10_group 269 = .ok (.invokevirtual 359, 3) := by decide +kernel
theorem dX10_group_272 : decode cX10_group 272 = .ok (.aload_n 0, 1) := by decide +kernel
theorem dX10_group_273 : decode cX10_group 273 = .ok (.iconst 0, 1) := by decide +kernel
theorem dX10_group_274 : decode cX10_group 274 = .ok (.invokevirtual 344, 3) := by decide +kernel
theorem dX10_group_277 : decode cX10_group 277 = .ok (.iinc 4 1, 3) := by decide +kernel
theorem dX10_group_280 : decode cX10_group 280 = .ok (.goto (-90), 3) := by decide +kernel
theorem dX10_group_283 : decode cX10_group 283 = .ok (.return_, 1) := by decide +kernel
theorem dX10_itself_0 : decode cX10_itself 0 = .ok (.aload_n 0, 1) := by decide +kernel
theorem dX10_itself_1 : decode cX10_itself 1 = .ok (.getfield 123, 3) := by decide +kernel
theorem dX10_itself_4 : decode cX10_itself 4 = .ok (.iload_n 2, 1) := by decide +kernel
theorem dX10_itself_5 : decode cX10_itself 5 = .ok (.aload_n 0, 1) := by decide +kernel
theorem dX10_itself_6 : decode cX10_itself 6 = .ok (.getfield 341, 3) := by decide +kernel
theorem dX10_itself_9 : decode cX10_itself 9 = .ok (.iastore, 1) := by decide +kernel
theorem dX10_itself_10 : decode cX10_itself 10 = .ok (.aload_n 0, 1) := by decide +kernel
theorem dX10_itself_11 : decode cX10_itself 11 = .ok (.getfield 341, 3) := by decide +kernel
theorem dX10_itself_14 : decode cX10_itself 14 = .ok (.istore 4, 2) := by decide +kernel
theorem dX10_itself_16 : decode cX10_itself 16 = .ok (.iload_n 3, 1) := by decide +kernel
theorem dX10_itself_17 : decode cX10_itself 17 = .ok (.invokestatic 233, 3) := by decide +kernel
theorem dX10_itself_20 : decode cX10_itself 20 = .ok (.ifCond .eq 64, 3) := by decide +kernel
theorem dX10_itself_23 : decode cX10_itself 23 = .ok (.aload_n 0, 1) := by decide +kernel
theorem dX10_itself_24 : decode cX10_itself 24 = .ok (.iconst 1, 1) := by decide +kernel
theorem dX10_itself_25 : decode cX10_itself 25 = .ok (.iload_n 1, 1) := by decide +kernel
theorem dX10_itself_26 : decode cX10_itself 26 = .ok (.iload_n 2, 1) := by decide +kernel
theorem dX10_itself_27 : decode cX10_itself 27 = .ok (.aload_n 0, 1) := by decide +kernel
theorem dX10_itself_28 : decode cX10_itself 28 = .ok (.getfield 335, 3) := by decide +kernel
theorem dX10_itself_31 : decode cX10_itself 31 = .ok (.invokevirtual 365, 3) := by decide +kernel
theorem dX10_itself_34 : decode cX10_itself 34 = .ok (.ifCond .le 7, 3) := by decide +kernel
theorem dX10_itself_37 : decode cX10_itself 37 = .ok (.iconst 1, 1) := by decide +kernel
theorem dX10_itself_38 : decode cX10_itself 38 = .ok (.goto 4, 3) := by decide +kernel
theorem dX10_itself_41 : decode cX10_itself 41 = .ok (.iconst 0, 1) := by decide +kernel
theorem dX10_itself_42 : decode cX10_itself 42 = .ok (.istore 5, 2) := by decide +kernel
theorem dX10_itself_44 : decode cX10_itself 44 = .ok (.aload_n 0, 1) := by decide +kernel
theorem dX10_itself_45 : decode cX10_itself 45 = .ok (.iload_n 3, 1) := by decide +kernel
theorem dX10_itself_46 : decode cX10_itself 46 = .ok (.iload_n 2, 1) := by decide +kernel
theorem dX10_itself_47 : decode cX10_itself 47 = .ok (.iload 5, 2) := by decide +kernel
theorem dX10_itself_49 : decode cX10_itself 49 = .ok (.ifCond .eq 17, 3) := by decide +kernel
theorem dX10_itself_52 : decode cX10_itself 52 = .ok (.aload_n 0, 1) := by decide +kernel
theorem dX10_itself_53 : decode cX10_itself 53 = .ok (.getfield 126, 3) := by decide +kernel
theorem dX10_itself_56 : decode cX10_itself 56 = .ok (.aload_n 0, 1) := by decide +kernel
theorem dX10_itself_57 : decode cX10_itself 57 = .ok (.iload_n 1, 1) := by decide +kernel
theorem dX10_itself_58 : decode cX10_itself 58 = .ok (.iload_n 2, 1) := by decide +kernel
theorem dX10_itself_59 : decode cX10_itself 59 = .ok (.invokevirtual 379, 3) := by decide +kernel
theorem dX10_itself_62 : decode cX10_itself 62 = .ok (.iaload, 1) := by decide +kernel
theorem dX10_itself_63 : decode cX10_itself 63 = .ok (.goto 15, 3) := by decide +kernel
theorem dX10_itself_66 : decode cX10_itself 66 = .ok (.aload_n 0, 1) := by decide +kernel
theorem dX10_itself_67 : decode cX10_itself 67 = .ok (.getfield 120, 3) := by decide +kernel
theorem dX10_itself_70 : decode cX10_itself 70 = .ok (.aload_n 0, 1) := by decide +kernel
theorem dX10_itself_71 : decode cX10_itself 71 = .ok (.iload_n 1, 1) := by decide +kernel
theorem dX10_itself_72 : decode cX10_itself 72 = .ok (.iload_n 2, 1) := by decide +kernel
theorem dX10_itself_73 : decode cX10_itself 73 = .ok (.iconst 0, 1) := by decide +kernel
theorem dX10_itself_74 : decode cX10_itself 74 = .ok (.invokevirtual 271, 3) := by decide +kernel
theorem dX10_itself_77 : decode cX10_itself 77 = .ok (.iaload, 1) := by decide +kernel
theorem dX10_itself_78 : decode cX10_itself 78 = .ok (.invokevirtual 382, 3) := by decide +kernel
theorem dX10_itself_81 : decode cX10_itself 81 = .ok (.goto 128, 3) := by decide +kernel
theorem dX10_itself_84 : decode cX10_itself 84 = .ok (.iload_n 3, 1) := by decide +kernel
theorem dX10_itself_85 : decode cX10_itself 85 = .ok (.bipush 33, 2) := by decide +kernel
theorem dX10_itself_87 : decode cX10_itself 87 = .ok (.if_icmp .ne 83, 3) := by decide +kernel
theorem dX10_itself_90 : decode cX10_itself 90 = .ok (.aload_n 0, 1) := by decide +kernel
theorem dX10_itself_91 : decode cX10_itself 91 = .ok (.bipush 33, 2) := by decide +kernel
theorem dX10_itself_93 : decode cX10_itself 93 = .ok (.invokevirtual 344, 3) := by decide +kernel
theorem dX10_itself_96 : decode cX10_itself 96 = .ok (.aload_n 0, 1) := by decide +kernel
theorem dX10_itself_97 : decode cX10_itself 97 = .ok (.aload_n 0, 1) := by decide +kernel
theorem dX10_itself_98 : decode cX10_itself 98 = .ok (.getfield 26, 3) := by decide +kernel
theorem dX10_itself_101 : decode cX10_itself 101 = .ok (.sipush 400, 3) := by decide +kernel
theorem dX10_itself_104 : decode cX10_itself 104 = .ok (.iload_n 1, 1) := by decide +kernel
theorem dX10_itself_105 : decode cX10_itself 105 = .ok (.imul, 1) := by decide +kernel
theorem dX10_itself_106 : decode cX10_itself 106 = .ok (.iload_n 2, 1) := by decide +kernel
theorem dX10_itself_107 : decode cX10_itself 107 = .ok (.iadd, 1) := by decide +kernel
theorem dX10_itself_108 : decode cX10_itself 108 = .ok (.iconst 1, 1) := by decide +kernel
theorem dX10_itself_109 : decode cX10_itself 109 = .ok (.iadd, 1) := by decide +kernel
theorem dX10_itself_110 : decode cX10_itself 110 = .ok (.iaload, 1) := by decide +kernel
theorem dX10_itself_111 : decode cX10_itself 111 = .ok (.invokevirtual 344, 3) := by decide +kernel
theorem dX10_itself_114 : decode cX10_itself 114 = .ok (.iconst 0, 1) := by decide +kernel
theorem dX10_itself_115 : decode cX10_itself 115 = .ok (.istore 5, 2) := by decide +kernel
theorem dX10_itself_117 : decode cX10_itself 117 = .ok (.iload 5, 2) := by decide +kernel
theorem dX10_itself_119 : decode cX10_itself 119 = .ok (.aload_n 0, 1) := by decide +kernel
theorem dX10_itself_120 : decode cX10_itself 120 = .ok (.iload_n 1, 1) := by decide +kernel
theorem dX10_itself_121 : decode cX10_itself 121 = .ok (.iload_n 2, 1) := by decide +kernel
theorem dX10_itself_122 : decode cX10_itself 122 = .ok (.invokevirtual 268, 3) := by decide +kernel
theorem dX10_itself_125 : decode cX10_itself 125 = .ok (.if_icmp .ge 42, 3) := by decide +kernel
theorem dX10_itself_128 : decode cX10_itself 128 = .ok (.aload_n 0, 1) := by decide +kernel
theorem dX10_itself_129 : decode cX10_itself 129 = .ok (.getfield 120, 3) := by decide +kernel
theorem dX10_itself_132 : decode cX10_itself 132 = .ok (.aload_n 0, 1) := by decide +kernel
theorem dX10_itself_133 : decode cX10_itself 133 = .ok (.iload_n 1, 1) := by decide +kernel
theorem dX10_itself_134 : decode cX10_itself 134 = .ok (.iload_n 2, 1) := by decide +kernel
theorem dX10_itself_135 : decode cX10_itself 135 = .ok (.iload 5, 2) := by decide +kernel
theorem dX10_itself_137 : decode cX10_itself 137 = .ok (.invokevirtual 271, 3) := by decide +kernel
theorem dX10_itself_140 : decode cX10_itself 140 = .ok (.iaload, 1) := by decide +kernel
theorem dX10_itself_141 : decode cX10_itself 141 = .ok (.iload 4, 2) := by decide +kernel
theorem dX10_itself_143 : decode cX10_itself 143 = .ok (.isub, 1) := by decide +kernel
theorem dX10_itself_144 : decode cX10_itself 144 = .ok (.istore 6, 2) := by decide +kernel
theorem dX10_itself_146 : decode cX10_itself 146 = .ok (.aload_n 0, 1) := by decide +kernel
theorem dX10_itself_147 : decode cX10_itself 147 = .ok (.iload 6, 2) := by decide +kernel
theorem dX10_itself_149 : decode cX10_itself 149 = .ok (.bipush 8, 2) := by decide +kernel
theorem dX10_itself_151 : decode cX10_itself 151 = .ok (.ishr, 1) := by decide +kernel
theorem dX10_itself_152 : decode cX10_itself 152 = .ok (.invokevirtual 344, 3) := by decide +kernel
theorem dX10_itself_155 : decode cX10_itself 155 = .ok (.aload_n 0, 1) := by decide +kernel
theorem dX10_itself_156 : decode cX10_itself 156 = .ok (.iload 6, 2) := by decide +kernel
theorem dX10_itself_158 : decode cX10_itself 158 = .ok (.invokevirtual 344, 3) := by decide +kernel
theorem dX10_itself_161 : decode cX10_itself 161 = .ok (.iinc 5 1, 3) := by decide +kernel
theorem dX10_itself_164 : decode cX10_itself 164 = .ok (.goto (-47), 3) := by decide +kernel
theorem dX10_itself_167 : decode cX10_itself 167 = .ok (.goto 42, 3) := by decide +kernel
theorem dX10_itself_170 : decode cX10_itself 170 = .ok (.iconst 0, 1) := by decide +kernel
theorem dX10_itself_171 : decode cX10_itself 171 = .ok (.istore 5, 2) := by decide +kernel
theorem dX10_itself_173 : decode cX10_itself 173 = .ok (.iload 5, 2) := by decide +kernel
theorem dX10_itself_175 : decode cX10_itself 175 = .ok (.aload_n 0, 1) := by decide +kernel
theorem dX10_itself_176 : decode cX10_itself 176 = .ok (.iload_n 1, 1) := by decide +kernel
theorem dX10_itself_177 : decode cX10_itself 177 = .ok (.iload_n 2, 1) := by decide +kernel
theorem dX10_itself_178 : decode cX10_itself 178 = .ok (.invokevirtual 259, 3) := by decide +kernel
theorem dX10_itself_181 : decode cX10_itself 181 = .ok (.if_icmp .ge 28, 3) := by decide +kernel
theorem dX10_itself_184 : decode cX10_itself 184 = .ok (.aload_n 0, 1) := by decide +kernel
theorem dX10_itself_185 : decode cX10_itself 185 = .ok (.aload_n 0, 1) := by decide +kernel
theorem dX10_itself_186 : decode cX10_itself 186 = .ok (.getfield 26, 3) := by decide +kernel
theorem dX10_itself_189 : decode cX10_itself 189 = .ok (.sipush 400, 3) := by decide +kernel
theorem dX10_itself_192 : decode cX10_itself 192 = .ok (.iload_n 1, 1) := by decide +kernel
theorem dX10_itself_193 : decode cX10_itself 193 = .ok (.imul, 1) := by decide +kernel
theorem dX10_itself_194 : decode cX10_itself 194 = .ok (.iload_n 2, 1) := by decide +kernel
theorem dX10_itself_195 : decode cX10_itself 195 = .ok (.iadd, 1) := by decide +kernel
theorem dX10_itself_196 : decode cX10_itself 196 = .ok (.iload 5, 2) := by decide +kernel
theorem dX10_itself_198 : decode cX10_itself 198 = .ok (.iadd, 1) := by decide +kernel
theorem dX10_itself_199 : decode cX10_itself 199 = .ok (.iaload, 1) := by decide +kernel
theorem dX10_itself_200 : decode cX10_itself 200 = .ok (.invokevirtual 344, 3) := by decide +kernel
theorem dX10_itself_203 : decode cX10_itself 203 = .ok (.iinc 5 1, 3) := by decide +kernel
theorem dX10_itself_206 : decode cX10_itself 206 = .ok (.goto (-33), 3) := by decide +kernel
theorem dX10_itself_209 : decode cX10_itself 209 = .ok (.iload 4, 2) := by decide +kernel
theorem dX10_itself_211 : decode cX10_itself 211 = .ok (.sipush 4000, 3) := by decide +kernel
theorem dX10_itself_214 : decode cX10_itself 214 = .ok (.if_icmp .ge 11, 3) := by decide +kernel
theorem dX10_itself_217 : decode cX10_itself 217 = .ok (.aload_n 0, 1) := by decide +kernel
theorem dX10_itself_218 : decode cX10_itself 218 = .ok (.getfield 117, 3) := by decide +kernel
theorem dX10_itself_221 : decode cX10_itself 221 = .ok (.iload 4, 2) := by decide +kernel
theorem dX10_itself_223 : decode cX10_itself 223 = .ok (.iload_n 2, 1) := by decide +kernel
theorem dX10_itself_224 : decode cX10_itself 224 = .ok (.iastore, 1) := by decide +kernel
theorem dX10_itself_225 : decode cX10_itself 225 = .ok (.return_, 1) := by decide +kernel
theorem dX10_padOf_0 : decode cX10_padOf 0 = .ok (.iconst 0, 1) := by decide +kernel
theorem dX10_padOf_1 : decode cX10_padOf 1 = .ok (.istore_n 3, 1) := by decide +kernel
theorem dX10_padOf_2 : decode cX10_padOf 2 = .ok (.iconst 0, 1) := by decide +kernel
theorem dX10_padOf_3 : decode cX10_padOf 3 = .ok (.istore 4, 2) := by decide +kernel
theorem dX10_padOf_5 : decode cX10_padOf 5 = .ok (.iload 4, 2) := by decide +kernel
theorem dX10_padOf_7 : decode cX10_padOf 7 = .ok (.iload_n 2, 1) := by decide +kernel
theorem dX10_padOf_8 : decode cX10_padOf 8 = .ok (.if_icmp .ge 48, 3) := by decide +kernel
theorem dX10_padOf_11 : decode cX10_padOf 11 = .ok (.aload_n 0, 1) := by decide +kernel
theorem dX10_padOf_12 : decode cX10_padOf 12 = .ok (.getfield 44, 3) := by decide +kernel
theorem dX10_padOf_15 : decode cX10_padOf 15 = .ok (.sipush 400, 3) := by decide +kernel
theorem dX10_padOf_18 : decode cX10_padOf 18 = .ok (.iload_n 1, 1) := by decide +kernel
theorem dX10_padOf_19 : decode cX10_padOf 19 = .ok (.imul, 1) := by decide +kernel
theorem dX10_padOf_20 : decode cX10_padOf 20 = .ok (.iload 4, 2) := by decide +kernel
theorem dX10_padOf_22 : decode cX10_padOf 22 = .ok (.iadd, 1) := by decide +kernel
theorem dX10_padOf_23 : decode cX10_padOf 23 = .ok (.baload, 1) := by decide +kernel
theorem dX10_padOf_24 : decode cX10_padOf 24 = .ok (.ifCond .eq 24, 3) := by decide +kernel
theorem dX10_padOf_27 : decode cX10_padOf 27 = .ok (.aload_n 0, 1) := by decide +kernel
theorem dX10_padOf_28 : decode cX10_padOf 28 = .ok (.iconst 1, 1) := by decide +kernel
theorem dX10_padOf_29 : decode cX10_padOf 29 = .ok (.iload_n 1, 1) := by decide +kernel
theorem dX10_padOf_30 : decode cX10_padOf 30 = .ok (.iload 4, 2) := by decide +kernel
theorem dX10_padOf_32 : decode cX10_padOf 32 = .ok (.aload_n 0, 1) := by decide +kernel
theorem dX10_padOf_33 : decode cX10_padOf 33 = .ok (.getfield 335, 3) := by decide +kernel
theorem dX10_padOf_36 : decode cX10_padOf 36 = .ok (.invokevirtual 365, 3) := by decide +kernel
theorem dX10_padOf_39 : decode cX10_padOf 39 = .ok (.ifCond .le 9, 3) := by decide +kernel
theorem dX10_padOf_42 : decode cX10_padOf 42 = .ok (.iload_n 3, 1) := by decide +kernel
theorem dX10_padOf_43 : decode cX10_padOf 43 = .ok (.iconst 1, 1) := by decide +kernel
theorem dX10_padOf_44 : decode cX10_padOf 44 = .ok (.iadd, 1) := by decide +kernel
theorem dX10_padOf_45 : decode cX10_padOf 45 = .ok (.goto 4, 3) := by decide +kernel
theorem dX10_padOf_48 : decode cX10_padOf 48 = .ok (.iload_n 3, 1) := by decide +kernel
theorem dX10_padOf_49 : decode cX10_padOf 49 = .ok (.istore_n 3, 1) := by decide +kernel
theorem dX10_padOf_50 : decode cX10_padOf 50 = .ok (.iinc 4 1, 3) := by decide +kernel
theorem dX10_padOf_53 : decode cX10_padOf 53 = .ok (.goto (-48), 3) := by decide +kernel
theorem dX10_padOf_56 : decode cX10_padOf 56 = .ok (.iload_n 3, 1) := by decide +kernel
theorem dX10_padOf_57 : decode cX10_padOf 57 = .ok (.ireturn, 1) := by decide +kernel
theorem dX10_jump_0 : decode cX10_jump 0 = .ok (.iload_n 3, 1) := by decide +kernel
theorem dX10_jump_1 : decode cX10_jump 1 = .ok (.aload_n 0, 1) := by decide +kernel
theorem dX10_jump_2 : decode cX10_jump 2 = .ok (.getfield 341, 3) := by decide +kernel
theorem dX10_jump_5 : decode cX10_jump 5 = .ok (.isub, 1) := by decide +kernel
theorem dX10_jump_6 : decode cX10_jump 6 = .ok (.istore 4, 2) := by decide +kernel
theorem dX10_jump_8 : decode cX10_jump 8 = .ok (.iload_n 1, 1) := by decide +kernel
theorem dX10_jump_9 : decode cX10_jump 9 = .ok (.bipush 43, 2) := by decide +kernel
theorem dX10_jump_11 : decode cX10_jump 11 = .ok (.if_icmp .le 10, 3) := by decide +kernel
theorem dX10_jump_14 : decode cX10_jump 14 = .ok (.iload_n 1, 1) := by decide +kernel
theorem dX10_jump_15 : decode cX10_jump 15 = .ok (.bipush 64, 2) := by decide +kernel
theorem dX10_jump_17 : decode cX10_jump 17 = .ok (.isub, 1) := by decide +kernel
theorem dX10_jump_18 : decode cX10_jump 18 = .ok (.goto 4, 3) := by decide +kernel
theorem dX10_jump_21 : decode cX10_jump 21 = .ok (.iload_n 1, 1) := by decide +kernel
theorem dX10_jump_22 : decode cX10_jump 22 = .ok (.istore 5, 2) := by decide +kernel
theorem dX10_jump_24 : decode cX10_jump 24 = .ok (.aload_n 0, 1) := by decide +kernel
theorem dX10_jump_25 : decode cX10_jump 25 = .ok (.getfield 132, 3) := by decide +kernel
theorem dX10_jump_28 : decode cX10_jump 28 = .ok (.iload_n 2, 1) := by decide +kernel
theorem dX10_jump_29 : decode cX10_jump 29 = .ok (.iload 4, 2) := by decide +kernel
theorem dX10_jump_31 : decode cX10_jump 31 = .ok (.iastore, 1) := by decide +kernel
theorem dX10_jump_32 : decode cX10_jump 32 = .ok (.aload_n 0, 1) := by decide +kernel
theorem dX10_jump_33 : decode cX10_jump 33 = .ok (.getfield 129, 3) := by decide +kernel
theorem dX10_jump_36 : decode cX10_jump 36 = .ok (.iload_n 2, 1) := by decide +kernel
theorem dX10_jump_37 : decode cX10_jump 37 = .ok (.baload, 1) := by decide +kernel
theorem dX10_jump_38 : decode cX10_jump 38 = .ok (.ifCond .eq 30, 3) := by decide +kernel
theorem dX10_jump_41 : decode cX10_jump 41 = .ok (.aload_n 0, 1) := by decide +kernel
theorem dX10_jump_42 : decode cX10_jump 42 = .ok (.iload 5, 2) := by decide +kernel
theorem dX10_jump_44 : decode cX10_jump 44 = .ok (.bipush 64, 2) := by decide +kernel
theorem dX10_jump_46 : decode cX10_jump 46 = .ok (.iadd, 1) := by decide +kernel
theorem dX10_jump_47 : decode cX10_jump 47 = .ok (.invokevirtual 344, 3) := by decide +kernel
theorem dX10_jump_50 : decode cX10_jump 50 = .ok (.aload_n 0, 1) := by decide +kernel
theorem dX10_jump_51 : decode cX10_jump 51 = .ok (.iload 4, 2) := by decide +kernel
theorem dX10_jump_53 : decode cX10_jump 53 = .ok (.bipush 8, 2) := by decide +kernel
theorem dX10_jump_55 : decode cX10_jump 55 = .ok (.ishr, 1) := by decide +kernel
theorem dX10_jump_56 : decode cX10_jump 56 = .ok (.invokevirtual 344, 3) := by decide +kernel
theorem dX10_jump_59 : decode cX10_jump 59 = .ok (.aload_n 0, 1) := by decide +kernel
theorem dX10_jump_60 : decode cX10_jump 60 = .ok (.iload 4, 2) := by decide +kernel
theorem dX10_jump_62 : decode cX10_jump 62 = .ok (.invokevirtual 344, 3) := by decide +kernel
theorem dX10_jump_65 : decode cX10_jump 65 = .ok (.goto 15, 3) := by decide +kernel
theorem dX10_jump_68 : decode cX10_jump 68 = .ok (.aload_n 0, 1) := by decide +kernel
theorem dX10_jump_69 : decode cX10_jump 69 = .ok (.iload 5, 2) := by decide +kernel
theorem dX10_jump_71 : decode cX10_jump 71 = .ok (.invokevirtual 344, 3) := by decide +kernel
theorem dX10_jump_74 : decode cX10_jump 74 = .ok (.aload_n 0, 1) := by decide +kernel
theorem dX10_jump_75 : decode cX10_jump 75 = .ok (.iload 4, 2) := by decide +kernel
theorem dX10_jump_77 : decode cX10_jump 77 = .ok (.invokevirtual 344, 3) := by decide +kernel
theorem dX10_jump_80 : decode cX10_jump 80 = .ok (.return_, 1) := by decide +kernel
theorem dX10_pad_0 : decode cX10_pad 0 = .ok (.aload_n 0, 1) := by decide +kernel
theorem dX10_pad_1 : decode cX10_pad 1 = .ok (.getfield 126, 3) := by decide +kernel
theorem dX10_pad_4 : decode cX10_pad 4 = .ok (.aload_n 0, 1) := by decide +kernel
theorem dX10_pad_5 : decode cX10_pad 5 = .ok (.getfield 356, 3) := by decide +kernel
theorem dX10_pad_8 : decode cX10_pad 8 = .ok (.aload_n 0, 1) := by decide +kernel
theorem dX10_pad_9 : decode cX10_pad 9 = .ok (.getfield 341, 3) := by decide +kernel
theorem dX10_pad_12 : decode cX10_pad 12 = .ok (.iastore, 1) := by decide +kernel
theorem dX10_pad_13 : decode cX10_pad 13 = .ok (.iconst 0, 1) := by decide +kernel
theorem dX10_pad_14 : decode cX10_pad 14 = .ok (.istore 5, 2) := by decide +kernel
theorem dX10_pad_16 : decode cX10_pad 16 = .ok (.iload 5, 2) := by decide +kernel
theorem dX10_pad_18 : decode cX10_pad 18 = .ok (.aload_n 0, 1) := by decide +kernel
theorem dX10_pad_19 : decode cX10_pad 19 = .ok (.getfield 335, 3) := by decide +kernel
theorem dX10_pad_22 : decode cX10_pad 22 = .ok (.if_icmp .ge 53, 3) := by decide +kernel
theorem dX10_pad_25 : decode cX10_pad 25 = .ok (.aload_n 0, 1) := by decide +kernel
theorem dX10_pad_26 : decode cX10_pad 26 = .ok (.iload 5, 2) := by decide +kernel
theorem dX10_pad_28 : decode cX10_pad 28 = .ok (.iload_n 2, 1) := by decide +kernel
theorem dX10_pad_29 : decode cX10_pad 29 = .ok (.iload_n 1, 1) := by decide +kernel
theorem dX10_pad_30 : decode cX10_pad 30 = .ok (.iload_n 3, 1) := by decide +kernel
theorem dX10_pad_31 : decode cX10_pad 31 = .ok (.aload_n 0, 1) := by decide +kernel
theorem dX10_pad_32 : decode cX10_pad 32 = .ok (.getfield 335, 3) := by decide +kernel
theorem dX10_pad_35 : decode cX10_pad 35 = .ok (.invokevirtual 338, 3) := by decide +kernel
theorem dX10_pad_38 : decode cX10_pad 38 = .ok (.ifCond .eq 31, 3) := by decide +kernel
theorem dX10_pad_41 : decode cX10_pad 41 = .ok (.aload_n 0, 1) := by decide +kernel
theorem dX10_pad_42 : decode cX10_pad 42 = .ok (.iload_n 2, 1) := by decide +kernel
theorem dX10_pad_43 : decode cX10_pad 43 = .ok (.iconst 1, 1) := by decide +kernel
theorem dX10_pad_44 : decode cX10_pad 44 = .ok (.if_icmp .ne 8, 3) := by decide +kernel
theorem dX10_pad_47 : decode cX10_pad 47 = .ok (.bipush 49, 2) := by decide +kernel
theorem dX10_pad_49 : decode cX10_pad 49 = .ok (.goto 5, 3) := by decide +kernel
theorem dX10_pad_52 : decode cX10_pad 52 = .ok (.bipush 55, 2) := by decide +kernel
theorem dX10_pad_54 : decode cX10_pad 54 = .ok (.iload 5, 2) := by decide +kernel
theorem dX10_pad_56 : decode cX10_pad 56 = .ok (.invokevirtual 359, 3) := by decide +kernel
theorem dX10_pad_59 : decode cX10_pad 59 = .ok (.iload_n 2, 1) := by decide +kernel
theorem dX10_pad_60 : decode cX10_pad 60 = .ok (.iconst 1, 1) := by decide +kernel
theorem dX10_pad_61 : decode cX10_pad 61 = .ok (.if_icmp .ne 8, 3) := by decide +kernel
theorem dX10_pad_64 : decode cX10_pad 64 = .ok (.aload_n 0, 1) := by decide +kernel
theorem dX10_pad_65 : decode cX10_pad 65 = .ok (.iconst 1, 1) := by decide +kernel
theorem dX10_pad_66 : decode cX10_pad 66 = .ok (.invokevirtual 344, 3) := by decide +kernel
theorem dX10_pad_69 : decode cX10_pad 69 = .ok (.iinc 5 1, 3) := by decide +kernel
theorem dX10_pad_72 : decode cX10_pad 72 = .ok (.goto (-56), 3) := by decide +kernel
theorem dX10_pad_75 : decode cX10_pad 75 = .ok (.aload_n 0, 1) := by decide +kernel
theorem dX10_pad_76 : decode cX10_pad 76 = .ok (.dup, 1) := by decide +kernel
theorem dX10_pad_77 : decode cX10_pad 77 = .ok (.getfield 356, 3) := by decide +kernel
theorem dX10_pad_80 : decode cX10_pad 80 = .ok (.iconst 1, 1) := by decide +kernel
theorem dX10_pad_81 : decode cX10_pad 81 = .ok (.iadd, 1) := by decide +kernel
theorem dX10_pad_82 : decode cX10_pad 82 = .ok (.putfield 356, 3) := by decide +kernel
theorem dX10_pad_85 : decode cX10_pad 85 = .ok (.aload_n 0, 1) := by decide +kernel
theorem dX10_pad_86 : decode cX10_pad 86 = .ok (.bipush 20, 2) := by decide +kernel
theorem dX10_pad_88 : decode cX10_pad 88 = .ok (.sipush 400, 3) := by decide +kernel
theorem dX10_pad_91 : decode cX10_pad 91 = .ok (.aload_n 0, 1) := by decide +kernel
theorem dX10_pad_92 : decode cX10_pad 92 = .ok (.getfield 356, 3) := by decide +kernel
theorem dX10_pad_95 : decode cX10_pad 95 = .ok (.iadd, 1) := by decide +kernel
theorem dX10_pad_96 : decode cX10_pad 96 = .ok (.iconst 1, 1) := by decide +kernel
theorem dX10_pad_97 : decode cX10_pad 97 = .ok (.isub, 1) := by decide +kernel
theorem dX10_pad_98 : decode cX10_pad 98 = .ok (.aload_n 0, 1) := by decide +kernel
theorem dX10_pad_99 : decode cX10_pad 99 = .ok (.getfield 120, 3) := by decide +kernel
theorem dX10_pad_102 : decode cX10_pad 102 = .ok (.iload 4, 2) := by decide +kernel
theorem dX10_pad_104 : decode cX10_pad 104 = .ok (.iaload, 1) := by decide +kernel
theorem dX10_pad_105 : decode cX10_pad 105 = .ok (.invokevirtual 382, 3) := by decide +kernel
theorem dX10_pad_108 : decode cX10_pad 108 = .ok (.return_, 1) := by decide +kernel
theorem dX10_grows_0 : decode cX10_grows 0 = .ok (.iconst 0, 1) := by decide +kernel
theorem dX10_grows_1 : decode cX10_grows 1 = .ok (.istore_n 2, 1) := by decide +kernel
theorem dX10_grows_2 : decode cX10_grows 2 = .ok (.iconst 0, 1) := by decide +kernel
theorem dX10_grows_3 : decode cX10_grows 3 = .ok (.istore_n 3, 1) := by decide +kernel
theorem dX10_grows_4 : decode cX10_grows 4 = .ok (.iload_n 3, 1) := by decide +kernel
theorem dX10_grows_5 : decode cX10_grows 5 = .ok (.sipush 400, 3) := by decide +kernel
theorem dX10_grows_8 : decode cX10_grows 8 = .ok (.aload_n 0, 1) := by decide +kernel
theorem dX10_grows_9 : decode cX10_grows 9 = .ok (.getfield 356, 3) := by decide +kernel
theorem dX10_grows_12 : decode cX10_grows 12 = .ok (.iadd, 1) := by decide +kernel
theorem dX10_grows_13 : decode cX10_grows 13 = .ok (.if_icmp .ge 95, 3) := by decide +kernel
theorem dX10_grows_16 : decode cX10_grows 16 = .ok (.iload_n 3, 1) := by decide +kernel
theorem dX10_grows_17 : decode cX10_grows 17 = .ok (.sipush 400, 3) := by decide +kernel
theorem dX10_grows_20 : decode cX10_grows 20 = .ok (.if_icmp .ge 36, 3) := by decide +kernel
theorem dX10_grows_23 : decode cX10_grows 23 = .ok (.aload_n 0, 1) := by decide +kernel
theorem dX10_grows_24 : decode cX10_grows 24 = .ok (.getfield 44, 3) := by decide +kernel
theorem dX10_grows_27 : decode cX10_grows 27 = .ok (.sipush 400, 3) := by decide +kernel
theorem dX10_grows_30 : decode cX10_grows 30 = .ok (.iload_n 1, 1) := by decide +kernel
theorem dX10_grows_31 : decode cX10_grows 31 = .ok (.imul, 1) := by decide +kernel
theorem dX10_grows_32 : decode cX10_grows 32 = .ok (.iload_n 3, 1) := by decide +kernel
theorem dX10_grows_33 : decode cX10_grows 33 = .ok (.iadd, 1) := by decide +kernel
theorem dX10_grows_34 : decode cX10_grows 34 = .ok (.baload, 1) := by decide +kernel
theorem dX10_grows_35 : decode cX10_grows 35 = .ok (.ifCond .eq 25, 3) := by decide +kernel
theorem dX10_grows_38 : decode cX10_grows 38 = .ok (.aload_n 0, 1) := by decide +kernel
theorem dX10_grows_39 : decode cX10_grows 39 = .ok (.getfield 26, 3) := by decide +kernel
theorem dX10_grows_42 : decode cX10_grows 42 = .ok (.sipush 400, 3) := by decide +kernel
theorem dX10_grows_45 : decode cX10_grows 45 = .ok (.iload_n 1, 1) := by decide +kernel
theorem dX10_grows_46 : decode cX10_grows 46 = .ok (.imul, 1) := by decide +kernel
theorem dX10_grows_47 : decode cX10_grows 47 = .ok (.iload_n 3, 1) := by decide +kernel
theorem dX10_grows_48 : decode cX10_grows 48 = .ok (.iadd, 1) := by decide +kernel
theorem dX10_grows_49 : decode cX10_grows 49 = .ok (.iaload, 1) := by decide +kernel
theorem dX10_grows_50 : decode cX10_grows 50 = .ok (.invokestatic 233, 3) := by decide +kernel
theorem dX10_grows_53 : decode cX10_grows 53 = .ok (.ifCond .eq 7, 3) := by decide +kernel
theorem dX10_grows_56 : decode cX10_grows 56 = .ok (.iconst 1, 1) := by decide +kernel
theorem dX10_grows_57 : decode cX10_grows 57 = .ok (.goto 4, 3) := by decide +kernel
theorem dX10_grows_60 : decode cX10_grows 60 = .ok (.iconst 0, 1) := by decide +kernel
theorem dX10_grows_61 : decode cX10_grows 61 = .ok (.istore 4, 2) := by decide +kernel
theorem dX10_grows_63 : decode cX10_grows 63 = .ok (.iload 4, 2) := by decide +kernel
theorem dX10_grows_65 : decode cX10_grows 65 = .ok (.ifCond .eq 37, 3) := by decide +kernel
theorem dX10_grows_68 : decode cX10_grows 68 = .ok (.aload_n 0, 1) := by decide +kernel
theorem dX10_grows_69 : decode cX10_grows 69 = .ok (.getfield 129, 3) := by decide +kernel
theorem dX10_grows_72 : decode cX10_grows 72 = .ok (.iload_n 3, 1) := by decide +kernel
theorem dX10_grows_73 : decode cX10_grows 73 = .ok (.baload, 1) := by decide +kernel
theorem dX10_grows_74 : decode cX10_grows 74 = .ok (.ifCond .ne 28, 3) := by decide +kernel
theorem dX10_grows_77 : decode cX10_grows 77 = .ok (.aload_n 0, 1) := by decide +kernel
theorem dX10_grows_78 : decode cX10_grows 78 = .ok (.getfield 132, 3) := by decide +kernel
theorem dX10_grows_81 : decode cX10_grows 81 = .ok (.iload_n 3, 1) := by decide +kernel
theorem dX10_grows_82 : decode cX10_grows 82 = .ok (.iaload, 1) := by decide +kernel
theorem dX10_grows_83 : decode cX10_grows 83 = .ok (.bipush (-128), 2) := by decide +kernel
theorem dX10_grows_85 : decode cX10_grows 85 = .ok (.bipush 127, 2) := by decide +kernel
theorem dX10_grows_87 : decode cX10_grows 87 = .ok (.invokestatic 217, 3) := by decide +kernel
theorem dX10_grows_90 : decode cX10_grows 90 = .ok (.ifCond .ne 12, 3) := by decide +kernel
theorem dX10_grows_93 : decode cX10_grows 93 = .ok (.aload_n 0, 1) := by decide +kernel
theorem dX10_grows_94 : decode cX10_grows 94 = .ok (.getfield 129, 3) := by decide +kernel
theorem dX10_grows_97 : decode cX10_grows 97 = .ok (.iload_n 3, 1) := by decide +kernel
theorem dX10_grows_98 : decode cX10_grows 98 = .ok (.iconst 1, 1) := by decide +kernel
theorem dX10_grows_99 : decode cX10_grows 99 = .ok (.bastore, 1) := by decide +kernel
theorem dX10_grows_100 : decode cX10_grows 100 = .ok (.iconst 1, 1) := by decide +kernel
theorem dX10_grows_101 : decode cX10_grows 101 = .ok (.istore_n 2, 1) := by decide +kernel
theorem dX10_grows_102 : decode cX10_grows 102 = .ok (.iinc 3 1, 3) := by decide +kernel
theorem dX10_grows_105 : decode cX10_grows 105 = .ok (.goto (-101), 3) := by decide +kernel
theorem dX10_grows_108 : decode cX10_grows 108 = .ok (.iload_n 2, 1) := by decide +kernel
theorem dX10_grows_109 : decode cX10_grows 109 = .ok (.ireturn, 1) := by decide +kernel
theorem dX10_keep_0 : decode cX10_keep 0 = .ok (.aload_n 0, 1) := by decide +kernel
theorem dX10_keep_1 : decode cX10_keep 1 = .ok (.getfield 78, 3) := by decide +kernel
theorem dX10_keep_4 : decode cX10_keep 4 = .ok (.iload_n 1, 1) := by decide +kernel
theorem dX10_keep_5 : decode cX10_keep 5 = .ok (.aload_n 0, 1) := by decide +kernel
theorem dX10_keep_6 : decode cX10_keep 6 = .ok (.getfield 341, 3) := by decide +kernel
theorem dX10_keep_9 : decode cX10_keep 9 = .ok (.iastore, 1) := by decide +kernel
theorem dX10_keep_10 : decode cX10_keep 10 = .ok (.iconst 0, 1) := by decide +kernel
theorem dX10_keep_11 : decode cX10_keep 11 = .ok (.istore_n 2, 1) := by decide +kernel
theorem dX10_keep_12 : decode cX10_keep 12 = .ok (.iload_n 2, 1) := by decide +kernel
theorem dX10_keep_13 : decode cX10_keep 13 = .ok (.aload_n 0, 1) := by decide +kernel
theorem dX10_keep_14 : decode cX10_keep 14 = .ok (.getfield 341, 3) := by decide +kernel
theorem dX10_keep_17 : decode cX10_keep 17 = .ok (.if_icmp .ge 45, 3) := by decide +kernel
theorem dX10_keep_20 : decode cX10_keep 20 = .ok (.aload_n 0, 1) := by decide +kernel
theorem dX10_keep_21 : decode cX10_keep 21 = .ok (.getfield 75, 3) := by decide +kernel
theorem dX10_keep_24 : decode cX10_keep 24 = .ok (.sipush 1000, 3) := by decide +kernel
theorem dX10_keep_27 : decode cX10_keep 27 = .ok (.iload_n 1, 1) := by decide +kernel
theorem dX10_keep_28 : decode cX10_keep 28 = .ok (.imul, 1) := by decide +kernel
theorem dX10_keep_29 : decode cX10_keep 29 = .ok (.iload_n 2, 1) := by decide +kernel
theorem dX10_keep_30 : decode cX10_keep 30 = .ok (.iadd, 1) := by decide +kernel
theorem dX10_keep_31 : decode cX10_keep 31 = .ok (.aload_n 0, 1) := by decide +kernel
theorem dX10_keep_32 : decode cX10_keep 32 = .ok (.getfield 114, 3) := by decide +kernel
theorem dX10_keep_35 : decode cX10_keep 35 = .ok (.iload_n 2, 1) := by decide +kernel
theorem dX10_keep_36 : decode cX10_keep 36 = .ok (.iaload, 1) := by decide +kernel
theorem dX10_keep_37 : decode cX10_keep 37 = .ok (.iastore, 1) := by decide +kernel
theorem dX10_keep_38 : decode cX10_keep 38 = .ok (.aload_n 0, 1) := by decide +kernel
theorem dX10_keep_39 : decode cX10_keep 39 = .ok (.getfield 81, 3) := by decide +kernel
theorem dX10_keep_42 : decode cX10_keep 42 = .ok (.sipush 1000, 3) := by decide +kernel
theorem dX10_keep_45 : decode cX10_keep 45 = .ok (.iload_n 1, 1) := by decide +kernel
theorem dX10_keep_46 : decode cX10_keep 46 = .ok (.imul, 1) := by decide +kernel
theorem dX10_keep_47 : decode cX10_keep 47 = .ok (.iload_n 2, 1) := by decide +kernel
theorem dX10_keep_48 : decode cX10_keep 48 = .ok (.iadd, 1) := by decide +kernel
theorem dX10_keep_49 : decode cX10_keep 49 = .ok (.aload_n 0, 1) := by decide +kernel
theorem dX10_keep_50 : decode cX10_keep 50 = .ok (.getfield 117, 3) := by decide +kernel
theorem dX10_keep_53 : decode cX10_keep 53 = .ok (.iload_n 2, 1) := by decide +kernel
theorem dX10_keep_54 : decode cX10_keep 54 = .ok (.iaload, 1) := by decide +kernel
theorem dX10_keep_55 : decode cX10_keep 55 = .ok (.iastore, 1) := by decide +kernel
theorem dX10_keep_56 : decode cX10_keep 56 = .ok (.iinc 2 1, 3) := by decide +kernel
theorem dX10_keep_59 : decode cX10_keep 59 = .ok (.goto (-47), 3) := by decide +kernel
theorem dX10_keep_62 : decode cX10_keep 62 = .ok (.iconst 0, 1) := by decide +kernel
theorem dX10_keep_63 : decode cX10_keep 63 = .ok (.istore_n 2, 1) := by decide +kernel
theorem dX10_keep_64 : decode cX10_keep 64 = .ok (.iconst 0, 1) := by decide +kernel
theorem dX10_keep_65 : decode cX10_keep 65 = .ok (.istore_n 3, 1) := by decide +kernel
theorem dX10_keep_66 : decode cX10_keep 66 = .ok (.iconst 0, 1) := by decide +kernel
theorem dX10_keep_67 : decode cX10_keep 67 = .ok (.istore 4, 2) := by decide +kernel
theorem dX10_keep_69 : decode cX10_keep 69 = .ok (.iload 4, 2) := by decide +kernel
theorem dX10_keep_71 : decode cX10_keep 71 = .ok (.aload_n 0, 1) := by decide +kernel
theorem dX10_keep_72 : decode cX10_keep 72 = .ok (.getfield 23, 3) := by decide +kernel
theorem dX10_keep_75 : decode cX10_keep 75 = .ok (.iload_n 1, 1) := by decide +kernel
theorem dX10_keep_76 : decode cX10_keep 76 = .ok (.iaload, 1) := by decide +kernel
theorem dX10_keep_77 : decode cX10_keep 77 = .ok (.if_icmp .ge 111, 3) := by decide +kernel
theorem dX10_keep_80 : decode cX10_keep 80 = .ok (.sipush 400, 3) := by decide +kernel
theorem dX10_keep_83 : decode cX10_keep 83 = .ok (.iload_n 1, 1) := by decide +kernel
theorem dX10_keep_84 : decode cX10_keep 84 = .ok (.imul, 1) := by decide +kernel
theorem dX10_keep_85 : decode cX10_keep 85 = .ok (.iload 4, 2) := by decide +kernel
theorem dX10_keep_87 : decode cX10_keep 87 = .ok (.iadd, 1) := by decide +kernel
theorem dX10_keep_88 : decode cX10_keep 88 = .ok (.istore 5, 2) := by decide +kernel
theorem dX10_keep_90 : decode cX10_keep 90 = .ok (.aload_n 0, 1) := by decide +kernel
theorem dX10_keep_91 : decode cX10_keep 91 = .ok (.getfield 99, 3) := by decide +kernel
theorem dX10_keep_94 : decode cX10_keep 94 = .ok (.iload 5, 2) := by decide +kernel
theorem dX10_keep_96 : decode cX10_keep 96 = .ok (.aload_n 0, 1) := by decide +kernel
theorem dX10_keep_97 : decode cX10_keep 97 = .ok (.getfield 123, 3) := by decide +kernel
theorem dX10_keep_100 : decode cX10_keep 100 = .ok (.iload 4, 2) := by decide +kernel
theorem dX10_keep_102 : decode cX10_keep 102 = .ok (.iaload, 1) := by decide +kernel
theorem dX10_keep_103 : decode cX10_keep 103 = .ok (.iastore, 1) := by decide +kernel
theorem dX10_keep_104 : decode cX10_keep 104 = .ok (.aload_n 0, 1) := by decide +kernel
theorem dX10_keep_105 : decode cX10_keep 105 = .ok (.getfield 44, 3) := by decide +kernel
theorem dX10_keep_108 : decode cX10_keep 108 = .ok (.iload 5, 2) := by decide +kernel
theorem dX10_keep_110 : decode cX10_keep 110 = .ok (.baload, 1) := by decide +kernel
theorem dX10_keep_111 : decode cX10_keep 111 = .ok (.ifCond .eq 36, 3) := by decide +kernel
theorem dX10_keep_114 : decode cX10_keep 114 = .ok (.aload_n 0, 1) := by decide +kernel
theorem dX10_keep_115 : decode cX10_keep 115 = .ok (.getfield 26, 3) := by decide +kernel
theorem dX10_keep_118 : decode cX10_keep 118 = .ok (.iload 5, 2) := by decide +kernel
theorem dX10_keep_120 : decode cX10_keep 120 = .ok (.iaload, 1) := by decide +kernel
theorem dX10_keep_121 : decode cX10_keep 121 = .ok (.bipush 20, 2) := by decide +kernel
theorem dX10_keep_123 : decode cX10_keep 123 = .ok (.bipush 32, 2) := by decide +kernel
theorem dX10_keep_125 : decode cX10_keep 125 = .ok (.invokestatic 217, 3) := by decide +kernel
theorem dX10_keep_128 : decode cX10_keep 128 = .ok (.ifCond .eq 19, 3) := by decide +kernel
theorem dX10_keep_131 : decode cX10_keep 131 = .ok (.aload_n 0, 1) := by decide +kernel
theorem dX10_keep_132 : decode cX10_keep 132 = .ok (.getfield 129, 3) := by decide +kernel
theorem dX10_keep_135 : decode cX10_keep 135 = .ok (.iload 4, 2) := by decide +kernel
theorem dX10_keep_137 : decode cX10_keep 137 = .ok (.baload, 1) := by decide +kernel
theorem dX10_keep_138 : decode cX10_keep 138 = .ok (.ifCond .eq 9, 3) := by decide +kernel
theorem dX10_keep_141 : decode cX10_keep 141 = .ok (.iload_n 2, 1) := by decide +kernel
theorem dX10_keep_142 : decode cX10_keep 142 = .ok (.iconst 1, 1) := by decide +kernel
theorem dX10_keep_143 : decode cX10_keep 143 = .ok (.iadd, 1) := by decide +kernel
theorem dX10_keep_144 : decode cX10_keep 144 = .ok (.goto 4, 3) := by decide +kernel
theorem dX10_keep_147 : decode cX10_keep 147 = .ok (.iload_n 2, 1) := by decide +kernel
theorem dX10_keep_148 : decode cX10_keep 148 = .ok (.istore_n 2, 1) := by decide +kernel
theorem dX10_keep_149 : decode cX10_keep 149 = .ok (.aload_n 0, 1) := by decide +kernel
theorem dX10_keep_150 : decode cX10_keep 150 = .ok (.getfield 44, 3) := by decide +kernel
theorem dX10_keep_153 : decode cX10_keep 153 = .ok (.iload 5, 2) := by decide +kernel
theorem dX10_keep_155 : decode cX10_keep 155 = .ok (.baload, 1) := by decide +kernel
theorem dX10_keep_156 : decode cX10_keep 156 = .ok (.ifCond .eq 24, 3) := by decide +kernel
theorem dX10_keep_159 : decode cX10_keep 159 = .ok (.aload_n 0, 1) := by decide +kernel
theorem dX10_keep_160 : decode cX10_keep 160 = .ok (.iconst 1, 1) := by decide +kernel
theorem dX10_keep_161 : decode cX10_keep 161 = .ok (.iload_n 1, 1) := by decide +kernel
theorem dX10_keep_162 : decode cX10_keep 162 = .ok (.iload 4, 2) := by decide +kernel
theorem dX10_keep_164 : decode cX10_keep 164 = .ok (.aload_n 0, 1) := by decide +kernel
theorem dX10_keep_165 : decode cX10_keep 165 = .ok (.getfield 335, 3) := by decide +kernel
theorem dX10_keep_168 : decode cX10_keep 168 = .ok (.invokevirtual 365, 3) := by decide +kernel
theorem dX10_keep_171 : decode cX10_keep 171 = .ok (.ifCond .le 9, 3) := by decide +kernel
theorem dX10_keep_174 : decode cX10_keep 174 = .ok (.iload_n 3, 1) := by decide +kernel
theorem dX10_keep_175 : decode cX10_keep 175 = .ok (.iconst 1, 1) := by decide +kernel
theorem dX10_keep_176 : decode cX10_keep 176 = .ok (.iadd, 1) := by decide +kernel
theorem dX10_keep_177 : decode cX10_keep 177 = .ok (.goto 4, 3) := by decide +kernel
theorem dX10_keep_180 : decode cX10_keep 180 = .ok (.iload_n 3, 1) := by decide +kernel
theorem dX10_keep_181 : decode cX10_keep 181 = .ok (.istore_n 3, 1) := by decide +kernel
theorem dX10_keep_182 : decode cX10_keep 182 = .ok (.iinc 4 1, 3) := by decide +kernel
theorem dX10_keep_185 : decode cX10_keep 185 = .ok (.goto (-116), 3) := by decide +kernel
theorem dX10_keep_188 : decode cX10_keep 188 = .ok (.aload_n 0, 1) := by decide +kernel
theorem dX10_keep_189 : decode cX10_keep 189 = .ok (.getfield 102, 3) := by decide +kernel
theorem dX10_keep_192 : decode cX10_keep 192 = .ok (.iload_n 1, 1) := by decide +kernel
theorem dX10_keep_193 : decode cX10_keep 193 = .ok (.iload_n 2, 1) := by decide +kernel
theorem dX10_keep_194 : decode cX10_keep 194 = .ok (.iastore, 1) := by decide +kernel
theorem dX10_keep_195 : decode cX10_keep 195 = .ok (.aload_n 0, 1) := by decide +kernel
theorem dX10_keep_196 : decode cX10_keep 196 = .ok (.getfield 105, 3) := by decide +kernel
theorem dX10_keep_199 : decode cX10_keep 199 = .ok (.iload_n 1, 1) := by decide +kernel
theorem dX10_keep_200 : decode cX10_keep 200 = .ok (.aload_n 0, 1) := by decide +kernel
theorem dX10_keep_201 : decode cX10_keep 201 = .ok (.getfield 341, 3) := by decide +kernel
theorem dX10_keep_204 : decode cX10_keep 204 = .ok (.aload_n 0, 1) := by decide +kernel
theorem dX10_keep_205 : decode cX10_keep 205 = .ok (.getfield 373, 3) := by decide +kernel
theorem dX10_keep_208 : decode cX10_keep 208 = .ok (.if_icmp .le 12, 3) := by decide +kernel
theorem dX10_keep_211 : decode cX10_keep 211 = .ok (.aload_n 0, 1) := by decide +kernel
theorem dX10_keep_212 : decode cX10_keep 212 = .ok (.getfield 356, 3) := by decide +kernel
theorem dX10_keep_215 : decode cX10_keep 215 = .ok (.iconst 1, 1) := by decide +kernel
theorem dX10_keep_216 : decode cX10_keep 216 = .ok (.iadd, 1) := by decide +kernel
theorem dX10_keep_217 : decode cX10_keep 217 = .ok (.goto 7, 3) := by decide +kernel
theorem dX10_keep_220 : decode cX10_keep 220 = .ok (.aload_n 0, 1) := by decide +kernel
theorem dX10_keep_221 : decode cX10_keep 221 = .ok (.getfield 356, 3) := by decide +kernel
theorem dX10_keep_224 : decode cX10_keep 224 = .ok (.iastore, 1) := by decide +kernel
theorem dX10_keep_225 : decode cX10_keep 225 = .ok (.aload_n 0, 1) := by decide +kernel
theorem dX10_keep_226 : decode cX10_keep 226 = .ok (.getfield 72, 3) := by decide +kernel
theorem dX10_keep_229 : decode cX10_keep 229 = .ok (.iload_n 1, 1) := by decide +kernel
theorem dX10_keep_230 : decode cX10_keep 230 = .ok (.aload_n 0, 1) := by decide +kernel
theorem dX10_keep_231 : decode cX10_keep 231 = .ok (.getfield 335, 3) := by decide +kernel
theorem dX10_keep_234 : decode cX10_keep 234 = .ok (.iastore, 1) := by decide +kernel
theorem dX10_keep_235 : decode cX10_keep 235 = .ok (.aload_n 0, 1) := by decide +kernel
theorem dX10_keep_236 : decode cX10_keep 236 = .ok (.getfield 84, 3) := by decide +kernel
theorem dX10_keep_239 : decode cX10_keep 239 = .ok (.iload_n 1, 1) := by decide +kernel
theorem dX10_keep_240 : decode cX10_keep 240 = .ok (.aload_n 0, 1) := by decide +kernel
theorem dX10_keep_241 : decode cX10_keep 241 = .ok (.getfield 29, 3) := by decide +kernel
theorem dX10_keep_244 : decode cX10_keep 244 = .ok (.iload_n 1, 1) := by decide +kernel
theorem dX10_keep_245 : decode cX10_keep 245 = .ok (.iaload, 1) := by decide +kernel
theorem dX10_keep_246 : decode cX10_keep 246 = .ok (.iastore, 1) := by decide +kernel
theorem dX10_keep_247 : decode cX10_keep 247 = .ok (.iconst 0, 1) := by decide +kernel
theorem dX10_keep_248 : decode cX10_keep 248 = .ok (.istore 4, 2) := by decide +kernel
theorem dX10_keep_250 : decode cX10_keep 250 = .ok (.iload 4, 2) := by decide +kernel
theorem dX10_keep_252 : decode cX10_keep 252 = .ok (.aload_n 0, 1) := by decide +kernel
theorem dX10_keep_253 : decode cX10_keep 253 = .ok (.getfield 29, 3) := by decide +kernel
theorem dX10_keep_256 : decode cX10_keep 256 = .ok (.iload_n 1, 1) := by decide +kernel
theorem dX10_keep_257 : decode cX10_keep 257 = .ok (.iaload, 1) := by decide +kernel
theorem dX10_keep_258 : decode cX10_keep 258 = .ok (.if_icmp .ge 163, 3) := by decide +kernel
theorem dX10_keep_261 : decode cX10_keep 261 = .ok (.bipush 8, 2) := by decide +kernel
theorem dX10_keep_263 : decode cX10_keep 263 = .ok (.iload_n 1, 1) := by decide +kernel
theorem dX10_keep_264 : decode cX10_keep 264 = .ok (.imul, 1) := by decide +kernel
theorem dX10_keep_265 : decode cX10_keep 265 = .ok (.iload 4, 2) := by decide +kernel
theorem dX10_keep_267 : decode cX10_keep 267 = .ok (.iadd, 1) := by decide +kernel
theorem dX10_keep_268 : decode cX10_keep 268 = .ok (.istore 5, 2) := by decide +kernel
theorem dX10_keep_270 : decode cX10_keep 270 = .ok (.aload_n 0, 1) := by decide +kernel
theorem dX10_keep_271 : decode cX10_keep 271 = .ok (.iconst 5, 1) := by decide +kernel
theorem dX10_keep_272 : decode cX10_keep 272 = .ok (.iload_n 1, 1) := by decide +kernel
theorem dX10_keep_273 : decode cX10_keep 273 = .ok (.aload_n 0, 1) := by decide +kernel
theorem dX10_keep_274 : decode cX10_keep 274 = .ok (.getfield 38, 3) := by decide +kernel
theorem dX10_keep_277 : decode cX10_keep 277 = .ok (.iload 5, 2) := by decide +kernel
theorem dX10_keep_279 : decode cX10_keep 279 = .ok (.iaload, 1) := by decide +kernel
theorem dX10_keep_280 : decode cX10_keep 280 = .ok (.aload_n 0, 1) := by decide +kernel
theorem dX10_keep_281 : decode cX10_keep 281 = .ok (.getfield 335, 3) := by decide +kernel
theorem dX10_keep_284 : decode cX10_keep 284 = .ok (.invokevirtual 365, 3) := by decide +kernel
theorem dX10_keep_287 : decode cX10_keep 287 = .ok (.ifCond .le 7, 3) := by decide +kernel
theorem dX10_keep_290 : decode cX10_keep 290 = .ok (.iconst 1, 1) := by decide +kernel
theorem dX10_keep_291 : decode cX10_keep 291 = .ok (.goto 4, 3) := by decide +kernel
theorem dX10_keep_294 : decode cX10_keep 294 = .ok (.iconst 0, 1) := by decide +kernel
theorem dX10_keep_295 : decode cX10_keep 295 = .ok (.istore 6, 2) := by decide +kernel
theorem dX10_keep_297 : decode cX10_keep 297 = .ok (.aload_n 0, 1) := by decide +kernel
theorem dX10_keep_298 : decode cX10_keep 298 = .ok (.getfield 87, 3) := by decide +kernel
theorem dX10_keep_301 : decode cX10_keep 301 = .ok (.bipush 9, 2) := by decide +kernel
theorem dX10_keep_303 : decode cX10_keep 303 = .ok (.iload_n 1, 1) := by decide +kernel
theorem dX10_keep_304 : decode cX10_keep 304 = .ok (.imul, 1) := by decide +kernel
theorem dX10_keep_305 : decode cX10_keep 305 = .ok (.iload 4, 2) := by decide +kernel
theorem dX10_keep_307 : decode cX10_keep 307 = .ok (.iadd, 1) := by decide +kernel
theorem dX10_keep_308 : decode cX10_keep 308 = .ok (.aload_n 0, 1) := by decide +kernel
theorem dX10_keep_309 : decode cX10_keep 309 = .ok (.getfield 120, 3) := by decide +kernel
theorem dX10_keep_312 : decode cX10_keep 312 = .ok (.aload_n 0, 1) := by decide +kernel
theorem dX10_keep_313 : decode cX10_keep 313 = .ok (.getfield 32, 3) := by decide +kernel
theorem dX10_keep_316 : decode cX10_keep 316 = .ok (.iload 5, 2) := by decide +kernel
theorem dX10_keep_318 : decode cX10_keep 318 = .ok (.iaload, 1) := by decide +kernel
theorem dX10_keep_319 : decode cX10_keep 319 = .ok (.iaload, 1) := by decide +kernel
theorem dX10_keep_320 : decode cX10_keep 320 = .ok (.iastore, 1) := by decide +kernel
theorem dX10_keep_321 : decode cX10_keep 321 = .ok (.aload_n 0, 1) := by decide +kernel
theorem dX10_keep_322 : decode cX10_keep 322 = .ok (.getfield 90, 3) := by decide +kernel
theorem dX10_keep_325 : decode cX10_keep 325 = .ok (.bipush 9, 2) := by decide +kernel
theorem dX10_keep_327 : decode cX10_keep 327 = .ok (.iload_n 1, 1) := by decide +kernel
theorem dX10_keep_328 : decode cX10_keep 328 = .ok (.imul, 1) := by decide +kernel
theorem dX10_keep_329 : decode cX10_keep 329 = .ok (.iload 4, 2) := by decide +kernel
theorem dX10_keep_331 : decode cX10_keep 331 = .ok (.iadd, 1) := by decide +kernel
theorem dX10_keep_332 : decode cX10_keep 332 = .ok (.aload_n 0, 1) := by decide +kernel
theorem dX10_keep_333 : decode cX10_keep 333 = .ok (.getfield 120, 3) := by decide +kernel
theorem dX10_keep_336 : decode cX10_keep 336 = .ok (.aload_n 0, 1) := by decide +kernel
theorem dX10_keep_337 : decode cX10_keep 337 = .ok (.getfield 35, 3) := by decide +kernel
theorem dX10_keep_340 : decode cX10_keep 340 = .ok (.iload 5, 2) := by decide +kernel
theorem dX10_keep_342 : decode cX10_keep 342 = .ok (.iaload, 1) := by decide +kernel
theorem dX10_keep_343 : decode cX10_keep 343 = .ok (.iaload, 1) := by decide +kernel
theorem dX10_keep_344 : decode cX10_keep 344 = .ok (.iastore, 1) := by decide +kernel
theorem dX10_keep_345 : decode cX10_keep 345 = .ok (.aload_n 0, 1) := by decide +kernel
theorem dX10_keep_346 : decode cX10_keep 346 = .ok (.getfield 93, 3) := by decide +kernel
theorem dX10_keep_349 : decode cX10_keep 349 = .ok (.bipush 9, 2) := by decide +kernel
theorem dX10_keep_351 : decode cX10_keep 351 = .ok (.iload_n 1, 1) := by decide +kernel
theorem dX10_keep_352 : decode cX10_keep 352 = .ok (.imul, 1) := by decide +kernel
theorem dX10_keep_353 : decode cX10_keep 353 = .ok (.iload 4, 2) := by decide +kernel
theorem dX10_keep_355 : decode cX10_keep 355 = .ok (.iadd, 1) := by decide +kernel
theorem dX10_keep_356 : decode cX10_keep 356 = .ok (.iload 6, 2) := by decide +kernel
theorem dX10_keep_358 : decode cX10_keep 358 = .ok (.ifCond .eq 12, 3) := by decide +kernel
theorem dX10_keep_361 : decode cX10_keep 361 = .ok (.aload_n 0, 1) := by decide +kernel
theorem dX10_keep_362 : decode cX10_keep 362 = .ok (.getfield 126, 3) := by decide +kernel
theorem dX10_keep_365 : decode cX10_keep 365 = .ok (.iload_n 3, 1) := by decide +kernel
theorem dX10_keep_366 : decode cX10_keep 366 = .ok (.iaload, 1) := by decide +kernel
theorem dX10_keep_367 : decode cX10_keep 367 = .ok (.goto 15, 3) := by decide +kernel
theorem dX10_keep_370 : decode cX10_keep 370 = .ok (.aload_n 0, 1) := by decide +kernel
theorem dX10_keep_371 : decode cX10_keep 371 = .ok (.getfield 120, 3) := by decide +kernel
theorem dX10_keep_374 : decode cX10_keep 374 = .ok (.aload_n 0, 1) := by decide +kernel
theorem dX10_keep_375 : decode cX10_keep 375 = .ok (.getfield 38, 3) := by decide +kernel
theorem dX10_keep_378 : decode cX10_keep 378 = .ok (.iload 5, 2) := by decide +kernel
theorem dX10_keep_380 : decode cX10_keep 380 = .ok (.iaload, 1) := by decide +kernel
theorem dX10_keep_381 : decode cX10_keep 381 = .ok (.iaload, 1) := by decide +kernel
theorem dX10_keep_382 : decode cX10_keep 382 = .ok (.iastore, 1) := by decide +kernel
theorem dX10_keep_383 : decode cX10_keep 383 = .ok (.aload_n 0, 1) := by decide +kernel
theorem dX10_keep_384 : decode cX10_keep 384 = .ok (.getfield 96, 3) := by decide +kernel
theorem dX10_keep_387 : decode cX10_keep 387 = .ok (.bipush 9, 2) := by decide +kernel
theorem dX10_keep_389 : decode cX10_keep 389 = .ok (.iload_n 1, 1) := by decide +kernel
theorem dX10_keep_390 : decode cX10_keep 390 = .ok (.imul, 1) := by decide +kernel
theorem dX10_keep_391 : decode cX10_keep 391 = .ok (.iload 4, 2) := by decide +kernel
theorem dX10_keep_393 : decode cX10_keep 393 = .ok (.iadd, 1) := by decide +kernel
theorem dX10_keep_394 : decode cX10_keep 394 = .ok (.aload_n 0, 1) := by decide +kernel
theorem dX10_keep_395 : decode cX10_keep 395 = .ok (.getfield 41, 3) := by decide +kernel
theorem dX10_keep_398 : decode cX10_keep 398 = .ok (.iload 5, 2) := by decide +kernel
theorem dX10_keep_400 : decode cX10_keep 400 = .ok (.iaload, 1) := by decide +kernel
theorem dX10_keep_401 : decode cX10_keep 401 = .ok (.iastore, 1) := by decide +kernel
theorem dX10_keep_402 : decode cX10_keep 402 = .ok (.iload 6, 2) := by decide +kernel
theorem dX10_keep_404 : decode cX10_keep 404 = .ok (.ifCond .eq 9, 3) := by decide +kernel
theorem dX10_keep_407 : decode cX10_keep 407 = .ok (.iload_n 3, 1) := by decide +kernel
theorem dX10_keep_408 : decode cX10_keep 408 = .ok (.iconst 1, 1) := by decide +kernel
theorem dX10_keep_409 : decode cX10_keep 409 = .ok (.iadd, 1) := by decide +kernel
theorem dX10_keep_410 : decode cX10_keep 410 = .ok (.goto 4, 3) := by decide +kernel
theorem dX10_keep_413 : decode cX10_keep 413 = .ok (.iload_n 3, 1) := by decide +kernel
theorem dX10_keep_414 : decode cX10_keep 414 = .ok (.istore_n 3, 1) := by decide +kernel
theorem dX10_keep_415 : decode cX10_keep 415 = .ok (.iinc 4 1, 3) := by decide +kernel
theorem dX10_keep_418 : decode cX10_keep 418 = .ok (.goto (-168), 3) := by decide +kernel
theorem dX10_keep_421 : decode cX10_keep 421 = .ok (.aload_n 0, 1) := by decide +kernel
theorem dX10_keep_422 : decode cX10_keep 422 = .ok (.getfield 341, 3) := by decide +kernel
theorem dX10_keep_425 : decode cX10_keep 425 = .ok (.aload_n 0, 1) := by decide +kernel
theorem dX10_keep_426 : decode cX10_keep 426 = .ok (.getfield 373, 3) := by decide +kernel
theorem dX10_keep_429 : decode cX10_keep 429 = .ok (.if_icmp .le 85, 3) := by decide +kernel
theorem dX10_keep_432 : decode cX10_keep 432 = .ok (.bipush 9, 2) := by decide +kernel
theorem dX10_keep_434 : decode cX10_keep 434 = .ok (.iload_n 1, 1) := by decide +kernel
theorem dX10_keep_435 : decode cX10_keep 435 = .ok (.imul, 1) := by decide +kernel
theorem dX10_keep_436 : decode cX10_keep 436 = .ok (.aload_n 0, 1) := by decide +kernel
theorem dX10_keep_437 : decode cX10_keep 437 = .ok (.getfield 29, 3) := by decide +kernel
theorem dX10_keep_440 : decode cX10_keep 440 = .ok (.iload_n 1, 1) := by decide +kernel
theorem dX10_keep_441 : decode cX10_keep 441 = .ok (.iaload, 1) := by decide +kernel
theorem dX10_keep_442 : decode cX10_keep 442 = .ok (.iadd, 1) := by decide +kernel
theorem dX10_keep_443 : decode cX10_keep 443 = .ok (.istore 4, 2) := by decide +kernel
theorem dX10_keep_445 : decode cX10_keep 445 = .ok (.aload_n 0, 1) := by decide +kernel
theorem dX10_keep_446 : decode cX10_keep 446 = .ok (.getfield 87, 3) := by decide +kernel
theorem dX10_keep_449 : decode cX10_keep 449 = .ok (.iload 4, 2) := by decide +kernel
theorem dX10_keep_451 : decode cX10_keep 451 = .ok (.aload_n 0, 1) := by decide +kernel
theorem dX10_keep_452 : decode cX10_keep 452 = .ok (.getfield 120, 3) := by decide +kernel
theorem dX10_keep_455 : decode cX10_keep 455 = .ok (.iconst 0, 1) := by decide +kernel
theorem dX10_keep_456 : decode cX10_keep 456 = .ok (.iaload, 1) := by decide +kernel
theorem dX10_keep_457 : decode cX10_keep 457 = .ok (.iastore, 1) := by decide +kernel
theorem dX10_keep_458 : decode cX10_keep 458 = .ok (.aload_n 0, 1) := by decide +kernel
theorem dX10_keep_459 : decode cX10_keep 459 = .ok (.getfield 90, 3) := by decide +kernel
theorem dX10_keep_462 : decode cX10_keep 462 = .ok (.iload 4, 2) := by decide +kernel
theorem dX10_keep_464 : decode cX10_keep 464 = .ok (.aload_n 0, 1) := by decide +kernel
theorem dX10_keep_465 : decode cX10_keep 465 = .ok (.getfield 356, 3) := by decide +kernel
theorem dX10_keep_468 : decode cX10_keep 468 = .ok (.ifCond .le 12, 3) := by decide +kernel
theorem dX10_keep_471 : decode cX10_keep 471 = .ok (.aload_n 0, 1) := by decide +kernel
theorem dX10_keep_472 : decode cX10_keep 472 = .ok (.getfield 126, 3) := by decide +kernel
theorem dX10_keep_475 : decode cX10_keep 475 = .ok (.iconst 0, 1) := by decide +kernel
theorem dX10_keep_476 : decode cX10_keep 476 = .ok (.iaload, 1) := by decide +kernel
theorem dX10_keep_477 : decode cX10_keep 477 = .ok (.goto 7, 3) := by decide +kernel
theorem dX10_keep_480 : decode cX10_keep 480 = .ok (.aload_n 0, 1) := by decide +kernel
theorem dX10_keep_481 : decode cX10_keep 481 = .ok (.getfield 373, 3) := by decide +kernel
theorem dX10_keep_484 : decode cX10_keep 484 = .ok (.iastore, 1) := by decide +kernel
theorem dX10_keep_485 : decode cX10_keep 485 = .ok (.aload_n 0, 1) := by decide +kernel
theorem dX10_keep_486 : decode cX10_keep 486 = .ok (.getfield 93, 3) := by decide +kernel
theorem dX10_keep_489 : decode cX10_keep 489 = .ok (.iload 4, 2) := by decide +kernel
theorem dX10_keep_491 : decode cX10_keep 491 = .ok (.aload_n 0, 1) := by decide +kernel
theorem dX10_keep_492 : decode cX10_keep 492 = .ok (.getfield 373, 3) := by decide +kernel
theorem dX10_keep_495 : decode cX10_keep 495 = .ok (.iastore, 1) := by decide +kernel
theorem dX10_keep_496 : decode cX10_keep 496 = .ok (.aload_n 0, 1) := by decide +kernel
theorem dX10_keep_497 : decode cX10_keep 497 = .ok (.getfield 96, 3) := by decide +kernel
theorem dX10_keep_500 : decode cX10_keep 500 = .ok (.iload 4, 2) := by decide +kernel
theorem dX10_keep_502 : decode cX10_keep 502 = .ok (.iconst 0, 1) := by decide +kernel
theorem dX10_keep_503 : decode cX10_keep 503 = .ok (.iastore, 1) := by decide +kernel
theorem dX10_keep_504 : decode cX10_keep 504 = .ok (.aload_n 0, 1) := by decide +kernel
theorem dX10_keep_505 : decode cX10_keep 505 = .ok (.getfield 84, 3) := by decide +kernel
theorem dX10_keep_508 : decode cX10_keep 508 = .ok (.iload_n 1, 1) := by decide +kernel
theorem dX10_keep_509 : decode cX10_keep 509 = .ok (.dup2, 1) := by decide +kernel
theorem dX10_keep_510 : decode cX10_keep 510 = .ok (.iaload, 1) := by decide +kernel
theorem dX10_keep_511 : decode cX10_keep 511 = .ok (.iconst 1, 1) := by decide +kernel
theorem dX10_keep_512 : decode cX10_keep 512 = .ok (.iadd, 1) := by decide +kernel
theorem dX10_keep_513 : decode cX10_keep 513 = .ok (.iastore, 1) := by decide +kernel
theorem dX10_keep_514 : decode cX10_keep 514 = .ok (.return_, 1) := by decide +kernel
theorem dX10_runsWoven_0 : decode cX10_runsWoven 0 = .ok (.aload_n 0, 1) := by decide +kernel
theorem dX10_runsWoven_1 : decode cX10_runsWoven 1 = .ok (.getfield 385, 3) := by decide +kernel
theorem dX10_runsWoven_4 : decode cX10_runsWoven 4 = .ok (.iconst 1, 1) := by decide +kernel
theorem dX10_runsWoven_5 : decode cX10_runsWoven 5 = .ok (.if_icmp .ne 15, 3) := by decide +kernel
theorem dX10_runsWoven_8 : decode cX10_runsWoven 8 = .ok (.aload_n 0, 1) := by decide +kernel
theorem dX10_runsWoven_9 : decode cX10_runsWoven 9 = .ok (.iload_n 1, 1) := by decide +kernel
theorem dX10_runsWoven_10 : decode cX10_runsWoven 10 = .ok (.invokevirtual 325, 3) := by decide +kernel
theorem dX10_runsWoven_13 : decode cX10_runsWoven 13 = .ok (.ifCond .eq 7, 3) := by decide +kernel
theorem dX10_runsWoven_16 : decode cX10_runsWoven 16 = .ok (.iconst 1, 1) := by decide +kernel
theorem dX10_runsWoven_17 : decode cX10_runsWoven 17 = .ok (.goto 4, 3) := by decide +kernel
theorem dX10_runsWoven_20 : decode cX10_runsWoven 20 = .ok (.iconst 0, 1) := by decide +kernel
theorem dX10_runsWoven_21 : decode cX10_runsWoven 21 = .ok (.ireturn, 1) := by decide +kernel
theorem dX10_watched_0 : decode cX10_watched 0 = .ok (.aload_n 0, 1) := by decide +kernel
theorem dX10_watched_1 : decode cX10_watched 1 = .ok (.getfield 385, 3) := by decide +kernel
theorem dX10_watched_4 : decode cX10_watched 4 = .ok (.iconst 2, 1) := by decide +kernel
theorem dX10_watched_5 : decode cX10_watched 5 = .ok (.if_icmp .ne 20, 3) := by decide +kernel
theorem dX10_watched_8 : decode cX10_watched 8 = .ok (.aload_n 0, 1) := by decide +kernel
theorem dX10_watched_9 : decode cX10_watched 9 = .ok (.iload_n 1, 1) := by decide +kernel
theorem dX10_watched_10 : decode cX10_watched 10 = .ok (.invokevirtual 325, 3) := by decide +kernel
theorem dX10_watched_13 : decode cX10_watched 13 = .ok (.ifCond .eq 12, 3) := by decide +kernel
theorem dX10_watched_16 : decode cX10_watched 16 = .ok (.aload_n 0, 1) := by decide +kernel
theorem dX10_watched_17 : decode cX10_watched 17 = .ok (.getfield 72, 3) := by decide +kernel
theorem dX10_watched_20 : decode cX10_watched 20 = .ok (.iload_n 1, 1) := by decide +kernel
theorem dX10_watched_21 : decode cX10_watched 21 = .ok (.iaload, 1) := by decide +kernel
theorem dX10_watched_22 : decode cX10_watched 22 = .ok (.goto 4, 3) := by decide +kernel
theorem dX10_watched_25 : decode cX10_watched 25 = .ok (.iconst 0, 1) := by decide +kernel
theorem dX10_watched_26 : decode cX10_watched 26 = .ok (.ireturn, 1) := by decide +kernel
theorem dX10_tell_0 : decode cX10_tell 0 = .ok (.aload_n 0, 1) := by decide +kernel
theorem dX10_tell_1 : decode cX10_tell 1 = .ok (.getfield 183, 3) := by decide +kernel
theorem dX10_tell_4 : decode cX10_tell 4 = .ok (.aload_n 0, 1) := by decide +kernel
theorem dX10_tell_5 : decode cX10_tell 5 = .ok (.getfield 385, 3) := by decide +kernel
theorem dX10_tell_8 : decode cX10_tell 8 = .ok (.iaload, 1) := by decide +kernel
theorem dX10_tell_9 : decode cX10_tell 9 = .ok (.sipush 400, 3) := by decide +kernel
theorem dX10_tell_12 : decode cX10_tell 12 = .ok (.if_icmp .ge 51, 3) := by decide +kernel
theorem dX10_tell_15 : decode cX10_tell 15 = .ok (.aload_n 0, 1) := by decide +kernel
theorem dX10_tell_16 : decode cX10_tell 16 = .ok (.getfield 204, 3) := by decide +kernel
theorem dX10_tell_19 : decode cX10_tell 19 = .ok (.sipush 400, 3) := by decide +kernel
theorem dX10_tell_22 : decode cX10_tell 22 = .ok (.aload_n 0, 1) := by decide +kernel
theorem dX10_tell_23 : decode cX10_tell 23 = .ok (.getfield 385, 3) := by decide +kernel
theorem dX10_tell_26 : decode cX10_tell 26 = .ok (.imul, 1) := by decide +kernel
theorem dX10_tell_27 : decode cX10_tell 27 = .ok (.aload_n 0, 1) := by decide +kernel
theorem dX10_tell_28 : decode cX10_tell 28 = .ok (.getfield 183, 3) := by decide +kernel
theorem dX10_tell_31 : decode cX10_tell 31 = .ok (.aload_n 0, 1) := by decide +kernel
theorem dX10_tell_32 : decode cX10_tell 32 = .ok (.getfield 385, 3) := by decide +kernel
theorem dX10_tell_35 : decode cX10_tell 35 = .ok (.iaload, 1) := by decide +kernel
theorem dX10_tell_36 : decode cX10_tell 36 = .ok (.iadd, 1) := by decide +kernel
theorem dX10_tell_37 : decode cX10_tell 37 = .ok (.iload_n 1, 1) := by decide +kernel
theorem dX10_tell_38 : decode cX10_tell 38 = .ok (.iastore, 1) := by decide +kernel
theorem dX10_tell_39 : decode cX10_tell 39 = .ok (.aload_n 0, 1) := by decide +kernel
theorem dX10_tell_40 : decode cX10_tell 40 = .ok (.getfield 207, 3) := by decide +kernel
theorem dX10_tell_43 : decode cX10_tell 43 = .ok (.sipush 400, 3) := by decide +kernel
theorem dX10_tell_46 : decode cX10_tell 46 = .ok (.aload_n 0, 1) := by decide +kernel
theorem dX10_tell_47 : decode cX10_tell 47 = .ok (.getfield 385, 3) := by decide +kernel
theorem dX10_tell_50 : decode cX10_tell 50 = .ok (.imul, 1) := by decide +kernel
theorem dX10_tell_51 : decode cX10_tell 51 = .ok (.aload_n 0, 1) := by decide +kernel
theorem dX10_tell_52 : decode cX10_tell 52 = .ok (.getfield 183, 3) := by decide +kernel
theorem dX10_tell_55 : decode cX10_tell 55 = .ok (.aload_n 0, 1) := by decide +kernel
theorem dX10_tell_56 : decode cX10_tell 56 = .ok (.getfield 385, 3) := by decide +kernel
theorem dX10_tell_59 : decode cX10_tell 59 = .ok (.iaload, 1) := by decide +kernel
theorem dX10_tell_60 : decode cX10_tell 60 = .ok (.iadd, 1) := by decide +kernel
theorem dX10_tell_61 : decode cX10_tell 61 = .ok (.iload_n 2, 1) := by decide +kernel
theorem dX10_tell_62 : decode cX10_tell 62 = .ok (.iastore, 1) := by decide +kernel
theorem dX10_tell_63 : decode cX10_tell 63 = .ok (.aload_n 0, 1) := by decide +kernel
theorem dX10_tell_64 : decode cX10_tell 64 = .ok (.getfield 183, 3) := by decide +kernel
theorem dX10_tell_67 : decode cX10_tell 67 = .ok (.aload_n 0, 1) := by decide +kernel
theorem dX10_tell_68 : decode cX10_tell 68 = .ok (.getfield 385, 3) := by decide +kernel
theorem dX10_tell_71 : decode cX10_tell 71 = .ok (.dup2, 1) := by decide +kernel
theorem dX10_tell_72 : decode cX10_tell 72 = .ok (.iaload, 1) := by decide +kernel
theorem dX10_tell_73 : decode cX10_tell 73 = .ok (.iconst 1, 1) := by decide +kernel
theorem dX10_tell_74 : decode cX10_tell 74 = .ok (.iadd, 1) := by decide +kernel
theorem dX10_tell_75 : decode cX10_tell 75 = .ok (.iastore, 1) := by decide +kernel
theorem dX10_tell_76 : decode cX10_tell 76 = .ok (.return_, 1) := by decide +kernel
theorem dX10_run_0 : decode cX10_run 0 = .ok (.iload_n 1, 1) := by decide +kernel
theorem dX10_run_1 : decode cX10_run 1 = .ok (.iconst 0, 1) := by decide +kernel
theorem dX10_run_2 : decode cX10_run 2 = .ok (.iconst 2, 1) := by decide +kernel
theorem dX10_run_3 : decode cX10_run 3 = .ok (.invokestatic 217, 3) := by decide +kernel
theorem dX10_run_6 : decode cX10_run 6 = .ok (.ifCond .eq 23, 3) := by decide +kernel
theorem dX10_run_9 : decode cX10_run 9 = .ok (.aload_n 0, 1) := by decide +kernel
theorem dX10_run_10 : decode cX10_run 10 = .ok (.iload_n 2, 1) := by decide +kernel
theorem dX10_run_11 : decode cX10_run 11 = .ok (.invokevirtual 318, 3) := by decide +kernel
theorem dX10_run_14 : decode cX10_run 14 = .ok (.ifCond .eq 15, 3) := by decide +kernel
theorem dX10_run_17 : decode cX10_run 17 = .ok (.iload 5, 2) := by decide +kernel
theorem dX10_run_19 : decode cX10_run 19 = .ok (.iconst 1, 1) := by decide +kernel
theorem dX10_run_20 : decode cX10_run 20 = .ok (.sipush 3000, 3) := by decide +kernel
theorem dX10_run_23 : decode cX10_run 23 = .ok (.invokestatic 217, 3) := by decide +kernel
theorem dX10_run_26 : decode cX10_run 26 = .ok (.ifCond .ne 6, 3) := by decide +kernel
theorem dX10_run_29 : decode cX10_run 29 = .ok (.bipush (-2), 2) := by decide +kernel
theorem dX10_run_31 : decode cX10_run 31 = .ok (.ireturn, 1) := by decide +kernel
theorem dX10_run_32 : decode cX10_run 32 = .ok (.aload_n 0, 1) := by decide +kernel
theorem dX10_run_33 : decode cX10_run 33 = .ok (.iload_n 1, 1) := by decide +kernel
theorem dX10_run_34 : decode cX10_run 34 = .ok (.putfield 385, 3) := by decide +kernel
theorem dX10_run_37 : decode cX10_run 37 = .ok (.aload_n 0, 1) := by decide +kernel
theorem dX10_run_38 : decode cX10_run 38 = .ok (.iload 5, 2) := by decide +kernel
theorem dX10_run_40 : decode cX10_run 40 = .ok (.putfield 388, 3) := by decide +kernel
theorem dX10_run_43 : decode cX10_run 43 = .ok (.aload_n 0, 1) := by decide +kernel
theorem dX10_run_44 : decode cX10_run 44 = .ok (.dup, 1) := by decide +kernel
theorem dX10_run_45 : decode cX10_run 45 = .ok (.getfield 391, 3) := by decide +kernel
theorem dX10_run_48 : decode cX10_run 48 = .ok (.iconst 1, 1) := by decide +kernel
theorem dX10_run_49 : decode cX10_run 49 = .ok (.iadd, 1) := by decide +kernel
theorem dX10_run_50 : decode cX10_run 50 = .ok (.putfield 391, 3) := by decide +kernel
theorem dX10_run_53 : decode cX10_run 53 = .ok (.aload_n 0, 1) := by decide +kernel
theorem dX10_run_54 : decode cX10_run 54 = .ok (.invokevirtual 394, 3) := by decide +kernel
theorem dX10_run_57 : decode cX10_run 57 = .ok (.aload_n 0, 1) := by decide +kernel
theorem dX10_run_58 : decode cX10_run 58 = .ok (.iload_n 2, 1) := by decide +kernel
theorem dX10_run_59 : decode cX10_run 59 = .ok (.invokevirtual 397, 3) := by decide +kernel
theorem dX10_run_62 : decode cX10_run 62 = .ok (.iconst 0, 1) := by decide +kernel
theorem dX10_run_63 : decode cX10_run 63 = .ok (.istore 6, 2) := by decide +kernel
theorem dX10_run_65 : decode cX10_run 65 = .ok (.iload 6, 2) := by decide +kernel
theorem dX10_run_67 : decode cX10_run 67 = .ok (.aload_n 0, 1) := by decide +kernel
theorem dX10_run_68 : decode cX10_run 68 = .ok (.getfield 17, 3) := by decide +kernel
theorem dX10_run_71 : decode cX10_run 71 = .ok (.iload_n 2, 1) := by decide +kernel
theorem dX10_run_72 : decode cX10_run 72 = .ok (.iaload, 1) := by decide +kernel
theorem dX10_run_73 : decode cX10_run 73 = .ok (.if_icmp .ge 37, 3) := by decide +kernel
theorem dX10_run_76 : decode cX10_run 76 = .ok (.aload_n 0, 1) := by decide +kernel
theorem dX10_run_77 : decode cX10_run 77 = .ok (.getfield 144, 3) := by decide +kernel
theorem dX10_run_80 : decode cX10_run 80 = .ok (.iload 6, 2) := by decide +kernel
theorem dX10_run_82 : decode cX10_run 82 = .ok (.iload 6, 2) := by decide +kernel
theorem dX10_run_84 : decode cX10_run 84 = .ok (.ifCond .ne 7, 3) := by decide +kernel
theorem dX10_run_87 : decode cX10_run 87 = .ok (.iload_n 3, 1) := by decide +kernel
theorem dX10_run_88 : decode cX10_run 88 = .ok (.goto 15, 3) := by decide +kernel
theorem dX10_run_91 : decode cX10_run 91 = .ok (.iload 6, 2) := by decide +kernel
theorem dX10_run_93 : decode cX10_run 93 = .ok (.iconst 1, 1) := by decide +kernel
theorem dX10_run_94 : decode cX10_run 94 = .ok (.if_icmp .ne 8, 3) := by decide +kernel
theorem dX10_run_97 : decode cX10_run 97 = .ok (.iload 4, 2) := by decide +kernel
theorem dX10_run_99 : decode cX10_run 99 = .ok (.goto 4, 3) := by decide +kernel
theorem dX10_run_102 : decode cX10_run 102 = .ok (.iconst 0, 1) := by decide +kernel
theorem dX10_run_103 : decode cX10_run 103 = .ok (.iastore, 1) := by decide +kernel
theorem dX10_run_104 : decode cX10_run 104 = .ok (.iinc 6 1, 3) := by decide +kernel
theorem dX10_run_107 : decode cX10_run 107 = .ok (.goto (-42), 3) := by decide +kernel
theorem dX10_run_110 : decode cX10_run 110 = .ok (.aload_n 0, 1) := by decide +kernel
theorem dX10_run_111 : decode cX10_run 111 = .ok (.iload_n 2, 1) := by decide +kernel
theorem dX10_run_112 : decode cX10_run 112 = .ok (.invokevirtual 400, 3) := by decide +kernel
theorem dX10_run_115 : decode cX10_run 115 = .ok (.aload_n 0, 1) := by decide +kernel
theorem dX10_run_116 : decode cX10_run 116 = .ok (.getfield 403, 3) := by decide +kernel
theorem dX10_run_119 : decode cX10_run 119 = .ok (.iconst (-1), 1) := by decide +kernel
theorem dX10_run_120 : decode cX10_run 120 = .ok (.if_icmp .ne 10, 3) := by decide +kernel
theorem dX10_run_123 : decode cX10_run 123 = .ok (.aload_n 0, 1) := by decide +kernel
theorem dX10_run_124 : decode cX10_run 124 = .ok (.invokevirtual 406, 3) := by decide +kernel
theorem dX10_run_127 : decode cX10_run 127 = .ok (.goto (-12), 3) := by decide +kernel
theorem dX10_run_130 : decode cX10_run 130 = .ok (.aload_n 0, 1) := by decide +kernel
theorem dX10_run_131 : decode cX10_run 131 = .ok (.invokevirtual 409, 3) := by decide +kernel
theorem dX10_run_134 : decode cX10_run 134 = .ok (.aload_n 0, 1) := by decide +kernel
theorem dX10_run_135 : decode cX10_run 135 = .ok (.getfield 403, 3) := by decide +kernel
theorem dX10_run_138 : decode cX10_run 138 = .ok (.ireturn, 1) := by decide +kernel
theorem dX10_begin_0 : decode cX10_begin 0 = .ok (.aload_n 0, 1) := by decide +kernel
theorem dX10_begin_1 : decode cX10_begin 1 = .ok (.iconst (-1), 1) := by decide +kernel
theorem dX10_begin_2 : decode cX10_begin 2 = .ok (.putfield 403, 3) := by decide +kernel
theorem dX10_begin_5 : decode cX10_begin 5 = .ok (.aload_n 0, 1) := by decide +kernel
theorem dX10_begin_6 : decode cX10_begin 6 = .ok (.iconst 0, 1) := by decide +kernel
theorem dX10_begin_7 : decode cX10_begin 7 = .ok (.putfield 412, 3) := by decide +kernel
theorem dX10_begin_10 : decode cX10_begin 10 = .ok (.aload_n 0, 1) := by decide +kernel
theorem dX10_begin_11 : decode cX10_begin 11 = .ok (.iconst 0, 1) := by decide +kernel
theorem dX10_begin_12 : decode cX10_begin 12 = .ok (.putfield 415, 3) := by decide +kernel
theorem dX10_begin_15 : decode cX10_begin 15 = .ok (.aload_n 0, 1) := by decide +kernel
theorem dX10_begin_16 : decode cX10_begin 16 = .ok (.iconst 0, 1) := by decide +kernel
theorem dX10_begin_17 : decode cX10_begin 17 = .ok (.putfield 418, 3) := by decide +kernel
theorem dX10_begin_20 : decode cX10_begin 20 = .ok (.aload_n 0, 1) := by decide +kernel
theorem dX10_begin_21 : decode cX10_begin 21 = .ok (.iconst 0, 1) := by decide +kernel
theorem dX10_begin_22 : decode cX10_begin 22 = .ok (.putfield 421, 3) := by decide +kernel
theorem dX10_begin_25 : decode cX10_begin 25 = .ok (.aload_n 0, 1) := by decide +kernel
theorem dX10_begin_26 : decode cX10_begin 26 = .ok (.iconst 0, 1) := by decide +kernel
theorem dX10_begin_27 : decode cX10_begin 27 = .ok (.putfield 424, 3) := by decide +kernel
theorem dX10_begin_30 : decode cX10_begin 30 = .ok (.aload_n 0, 1) := by decide +kernel
theorem dX10_begin_31 : decode cX10_begin 31 = .ok (.iconst (-1), 1) := by decide +kernel
theorem dX10_begin_32 : decode cX10_begin 32 = .ok (.putfield 427, 3) := by decide +kernel
theorem dX10_begin_35 : decode cX10_begin 35 = .ok (.aload_n 0, 1) := by decide +kernel
theorem dX10_begin_36 : decode cX10_begin 36 = .ok (.iconst (-1), 1) := by decide +kernel
theorem dX10_begin_37 : decode cX10_begin 37 = .ok (.putfield 430, 3) := by decide +kernel
theorem dX10_begin_40 : decode cX10_begin 40 = .ok (.aload_n 0, 1) := by decide +kernel
theorem dX10_begin_41 : decode cX10_begin 41 = .ok (.iconst 0, 1) := by decide +kernel
theorem dX10_begin_42 : decode cX10_begin 42 = .ok (.putfield 433, 3) := by decide +kernel
theorem dX10_begin_45 : decode cX10_begin 45 = .ok (.aload_n 0, 1) := by decide +kernel
theorem dX10_begin_46 : decode cX10_begin 46 = .ok (.getfield 180, 3) := by decide +kernel
theorem dX10_begin_49 : decode cX10_begin 49 = .ok (.aload_n 0, 1) := by decide +kernel
theorem dX10_begin_50 : decode cX10_begin 50 = .ok (.getfield 385, 3) := by decide +kernel
theorem dX10_begin_53 : decode cX10_begin 53 = .ok (.iconst 0, 1) := by decide +kernel
theorem dX10_begin_54 : decode cX10_begin 54 = .ok (.iastore, 1) := by decide +kernel
theorem dX10_begin_55 : decode cX10_begin 55 = .ok (.aload_n 0, 1) := by decide +kernel
theorem dX10_begin_56 : decode cX10_begin 56 = .ok (.getfield 183, 3) := by decide +kernel
theorem dX10_begin_59 : decode cX10_begin 59 = .ok (.aload_n 0, 1) := by decide +kernel
theorem dX10_begin_60 : decode cX10_begin 60 = .ok (.getfield 385, 3) := by decide +kernel
theorem dX10_begin_63 : decode cX10_begin 63 = .ok (.iconst 0, 1) := by decide +kernel
theorem dX10_begin_64 : decode cX10_begin 64 = .ok (.iastore, 1) := by decide +kernel
theorem dX10_begin_65 : decode cX10_begin 65 = .ok (.iconst 0, 1) := by decide +kernel
theorem dX10_begin_66 : decode cX10_begin 66 = .ok (.istore_n 1, 1) := by decide +kernel
theorem dX10_begin_67 : decode cX10_begin 67 = .ok (.iload_n 1, 1) := by decide +kernel
theorem dX10_begin_68 : decode cX10_begin 68 = .ok (.bipush 8, 2) := by decide +kernel
theorem dX10_begin_70 : decode cX10_begin 70 = .ok (.if_icmp .ge 16, 3) := by decide +kernel
theorem dX10_begin_73 : decode cX10_begin 73 = .ok (.aload_n 0, 1) := by decide +kernel
theorem dX10_begin_74 : decode cX10_begin 74 = .ok (.getfield 156, 3) := by decide +kernel
theorem dX10_begin_77 : decode cX10_begin 77 = .ok (.iload_n 1, 1) := by decide +kernel
theorem dX10_begin_78 : decode cX10_begin 78 = .ok (.iconst 0, 1) := by decide +kernel
theorem dX10_begin_79 : decode cX10_begin 79 = .ok (.iastore, 1) := by decide +kernel
theorem dX10_begin_80 : decode cX10_begin 80 = .ok (.iinc 1 1, 3) := by decide +kernel
theorem dX10_begin_83 : decode cX10_begin 83 = .ok (.goto (-16), 3) := by decide +kernel
theorem dX10_begin_86 : decode cX10_begin 86 = .ok (.iconst 0, 1) := by decide +kernel
theorem dX10_begin_87 : decode cX10_begin 87 = .ok (.istore_n 1, 1) := by decide +kernel
theorem dX10_begin_88 : decode cX10_begin 88 = .ok (.iload_n 1, 1) := by decide +kernel
theorem dX10_begin_89 : decode cX10_begin 89 = .ok (.bipush 24, 2) := by decide +kernel
theorem dX10_begin_91 : decode cX10_begin 91 = .ok (.if_icmp .ge 16, 3) := by decide +kernel
theorem dX10_begin_94 : decode cX10_begin 94 = .ok (.aload_n 0, 1) := by decide +kernel
theorem dX10_begin_95 : decode cX10_begin 95 = .ok (.getfield 159, 3) := by decide +kernel
theorem dX10_begin_98 : decode cX10_begin 98 = .ok (.iload_n 1, 1) := by decide +kernel
theorem dX10_begin_99 : decode cX10_begin 99 = .ok (.iconst 0, 1) := by decide +kernel
theorem dX10_begin_100 : decode cX10_begin 100 = .ok (.iastore, 1) := by decide +kernel
theorem dX10_begin_101 : decode cX10_begin 101 = .ok (.iinc 1 1, 3) := by decide +kernel
theorem dX10_begin_104 : decode cX10_begin 104 = .ok (.goto (-16), 3) := by decide +kernel
theorem dX10_begin_107 : decode cX10_begin 107 = .ok (.return_, 1) := by decide +kernel
theorem dX10_keepRun_0 : decode cX10_keepRun 0 = .ok (.aload_n 0, 1) := by decide +kernel
theorem dX10_keepRun_1 : decode cX10_keepRun 1 = .ok (.getfield 171, 3) := by decide +kernel
theorem dX10_keepRun_4 : decode cX10_keepRun 4 = .ok (.aload_n 0, 1) := by decide +kernel
theorem dX10_keepRun_5 : decode cX10_keepRun 5 = .ok (.getfield 385, 3) := by decide +kernel
theorem dX10_keepRun_8 : decode cX10_keepRun 8 = .ok (.aload_n 0, 1) := by decide +kernel
theorem dX10_keepRun_9 : decode cX10_keepRun 9 = .ok (.getfield 403, 3) := by decide +kernel
theorem dX10_keepRun_12 : decode cX10_keepRun 12 = .ok (.iastore, 1) := by decide +kernel
theorem dX10_keepRun_13 : decode cX10_keepRun 13 = .ok (.aload_n 0, 1) := by decide +kernel
theorem dX10_keepRun_14 : decode cX10_keepRun 14 = .ok (.getfield 174, 3) := by decide +kernel
theorem dX10_keepRun_17 : decode cX10_keepRun 17 = .ok (.aload_n 0, 1) := by decide +kernel
theorem dX10_keepRun_18 : decode cX10_keepRun 18 = .ok (.getfield 385, 3) := by decide +kernel
theorem dX10_keepRun_21 : decode cX10_keepRun 21 = .ok (.aload_n 0, 1) := by decide +kernel
theorem dX10_keepRun_22 : decode cX10_keepRun 22 = .ok (.getfield 403, 3) := by decide +kernel
theorem dX10_keepRun_25 : decode cX10_keepRun 25 = .ok (.iconst 2, 1) := by decide +kernel
theorem dX10_keepRun_26 : decode cX10_keepRun 26 = .ok (.if_icmp .ne 7, 3) := by decide +kernel
theorem dX10_keepRun_29 : decode cX10_keepRun 29 = .ok (.iconst 0, 1) := by decide +kernel
theorem dX10_keepRun_30 : decode cX10_keepRun 30 = .ok (.goto 22, 3) := by decide +kernel
theorem dX10_keepRun_33 : decode cX10_keepRun 33 = .ok (.aload_n 0, 1) := by decide +kernel
theorem dX10_keepRun_34 : decode cX10_keepRun 34 = .ok (.getfield 403, 3) := by decide +kernel
theorem dX10_keepRun_37 : decode cX10_keepRun 37 = .ok (.iconst 1, 1) := by decide +kernel
theorem dX10_keepRun_38 : decode cX10_keepRun 38 = .ok (.if_icmp .ne 10, 3) := by decide +kernel
theorem dX10_keepRun_41 : decode cX10_keepRun 41 = .ok (.aload_n 0, 1) := by decide +kernel
theorem dX10_keepRun_42 : decode cX10_keepRun 42 = .ok (.getfield 424, 3) := by decide +kernel
theorem dX10_keepRun_45 : decode cX10_keepRun 45 = .ok (.goto 7, 3) := by decide +kernel
theorem dX10_keepRun_48 : decode cX10_keepRun 48 = .ok (.aload_n 0, 1) := by decide +kernel
theorem dX10_keepRun_49 : decode cX10_keepRun 49 = .ok (.getfield 433, 3) := by decide +kernel
theorem dX10_keepRun_52 : decode cX10_keepRun 52 = .ok (.iastore, 1) := by decide +kernel
theorem dX10_keepRun_53 : decode cX10_keepRun 53 = .ok (.aload_n 0, 1) := by decide +kernel
theorem dX10_keepRun_54 : decode cX10_keepRun 54 = .ok (.getfield 177, 3) := by decide +kernel
theorem dX10_keepRun_57 : decode cX10_keepRun 57 = .ok (.aload_n 0, 1) := by decide +kernel
theorem dX10_keepRun_58 : decode cX10_keepRun 58 = .ok (.getfield 385, 3) := by decide +kernel
theorem dX10_keepRun_61 : decode cX10_keepRun 61 = .ok (.aload_n 0, 1) := by decide +kernel
theorem dX10_keepRun_62 : decode cX10_keepRun 62 = .ok (.getfield 412, 3) := by decide +kernel
theorem dX10_keepRun_65 : decode cX10_keepRun 65 = .ok (.iastore, 1) := by decide +kernel
theorem dX10_keepRun_66 : decode cX10_keepRun 66 = .ok (.aload_n 0, 1) := by decide +kernel
theorem dX10_keepRun_67 : decode cX10_keepRun 67 = .ok (.getfield 186, 3) := by decide +kernel
theorem dX10_keepRun_70 : decode cX10_keepRun 70 = .ok (.aload_n 0, 1) := by decide +kernel
theorem dX10_keepRun_71 : decode cX10_keepRun 71 = .ok (.getfield 385, 3) := by decide +kernel
theorem dX10_keepRun_74 : decode cX10_keepRun 74 = .ok (.aload_n 0, 1) := by decide +kernel
theorem dX10_keepRun_75 : decode cX10_keepRun 75 = .ok (.getfield 421, 3) := by decide +kernel
theorem dX10_keepRun_78 : decode cX10_keepRun 78 = .ok (.iastore, 1) := by decide +kernel
theorem dX10_keepRun_79 : decode cX10_keepRun 79 = .ok (.aload_n 0, 1) := by decide +kernel
theorem dX10_keepRun_80 : decode cX10_keepRun 80 = .ok (.getfield 189, 3) := by decide +kernel
theorem dX10_keepRun_83 : decode cX10_keepRun 83 = .ok (.aload_n 0, 1) := by decide +kernel
theorem dX10_keepRun_84 : decode cX10_keepRun 84 = .ok (.getfield 385, 3) := by decide +kernel
theorem dX10_keepRun_87 : decode cX10_keepRun 87 = .ok (.aload_n 0, 1) := by decide +kernel
theorem dX10_keepRun_88 : decode cX10_keepRun 88 = .ok (.getfield 403, 3) := by decide +kernel
theorem dX10_keepRun_91 : decode cX10_keepRun 91 = .ok (.iconst 1, 1) := by decide +kernel
theorem dX10_keepRun_92 : decode cX10_keepRun 92 = .ok (.if_icmp .ne 10, 3) := by decide +kernel
theorem dX10_keepRun_95 : decode cX10_keepRun 95 = .ok (.aload_n 0, 1) := by decide +kernel
theorem dX10_keepRun_96 : decode cX10_keepRun 96 = .ok (.getfield 430, 3) := by decide +kernel
theorem dX10_keepRun_99 : decode cX10_keepRun 99 = .ok (.goto 4, 3) := by decide +kernel
theorem dX10_keepRun_102 : decode cX10_keepRun 102 = .ok (.iconst (-1), 1) := by decide +kernel
theorem dX10_keepRun_103 : decode cX10_keepRun 103 = .ok (.iastore, 1) := by decide +kernel
theorem dX10_keepRun_104 : decode cX10_keepRun 104 = .ok (.aload_n 0, 1) := by decide +kernel
theorem dX10_keepRun_105 : decode cX10_keepRun 105 = .ok (.getfield 192, 3) := by decide +kernel
theorem dX10_keepRun_108 : decode cX10_keepRun 108 = .ok (.aload_n 0, 1) := by decide +kernel
theorem dX10_keepRun_109 : decode cX10_keepRun 109 = .ok (.getfield 385, 3) := by decide +kernel
theorem dX10_keepRun_112 : decode cX10_keepRun 112 = .ok (.aload_n 0, 1) := by decide +kernel
theorem dX10_keepRun_113 : decode cX10_keepRun 113 = .ok (.getfield 403, 3) := by decide +kernel
theorem dX10_keepRun_116 : decode cX10_keepRun 116 = .ok (.iconst 1, 1) := by decide +kernel
theorem dX10_keepRun_117 : decode cX10_keepRun 117 = .ok (.if_icmp .ne 10, 3) := by decide +kernel
theorem dX10_keepRun_120 : decode cX10_keepRun 120 = .ok (.aload_n 0, 1) := by decide +kernel
theorem dX10_keepRun_121 : decode cX10_keepRun 121 = .ok (.getfield 427, 3) := by decide +kernel
theorem dX10_keepRun_124 : decode cX10_keepRun 124 = .ok (.goto 4, 3) := by decide +kernel
theorem dX10_keepRun_127 : decode cX10_keepRun 127 = .ok (.iconst (-1), 1) := by decide +kernel
theorem dX10_keepRun_128 : decode cX10_keepRun 128 = .ok (.iastore, 1) := by decide +kernel
theorem dX10_keepRun_129 : decode cX10_keepRun 129 = .ok (.aload_n 0, 1) := by decide +kernel
theorem dX10_keepRun_130 : decode cX10_keepRun 130 = .ok (.getfield 195, 3) := by decide +kernel
theorem dX10_keepRun_133 : decode cX10_keepRun 133 = .ok (.aload_n 0, 1) := by decide +kernel
theorem dX10_keepRun_134 : decode cX10_keepRun 134 = .ok (.getfield 385, 3) := by decide +kernel
theorem dX10_keepRun_137 : decode cX10_keepRun 137 = .ok (.aload_n 0, 1) := by decide +kernel
theorem dX10_keepRun_138 : decode cX10_keepRun 138 = .ok (.getfield 418, 3) := by decide +kernel
theorem dX10_keepRun_141 : decode cX10_keepRun 141 = .ok (.iastore, 1) := by decide +kernel
theorem dX10_keepRun_142 : decode cX10_keepRun 142 = .ok (.iconst 0, 1) := by decide +kernel
theorem dX10_keepRun_143 : decode cX10_keepRun 143 = .ok (.istore_n 1, 1) := by decide +kernel
theorem dX10_keepRun_144 : decode cX10_keepRun 144 = .ok (.iload_n 1, 1) := by decide +kernel
theorem dX10_keepRun_145 : decode cX10_keepRun 145 = .ok (.bipush 8, 2) := by decide +kernel
theorem dX10_keepRun_147 : decode cX10_keepRun 147 = .ok (.if_icmp .ge 29, 3) := by decide +kernel
theorem dX10_keepRun_150 : decode cX10_keepRun 150 = .ok (.aload_n 0, 1) := by decide +kernel
theorem dX10_keepRun_151 : decode cX10_keepRun 151 = .ok (.getfield 201, 3) := by decide +kernel
theorem dX10_keepRun_154 : decode cX10_keepRun 154 = .ok (.bipush 8, 2) := by decide +kernel
theorem dX10_keepRun_156 : decode cX10_keepRun 156 = .ok (.aload_n 0, 1) := by decide +kernel
theorem dX10_keepRun_157 : decode cX10_keepRun 157 = .ok (.getfield 385, 3) := by decide +kernel
theorem dX10_keepRun_160 : decode cX10_keepRun 160 = .ok (.imul, 1) := by decide +kernel
theorem dX10_keepRun_161 : decode cX10_keepRun 161 = .ok (.iload_n 1, 1) := by decide +kernel
theorem dX10_keepRun_162 : decode cX10_keepRun 162 = .ok (.iadd, 1) := by decide +kernel
theorem dX10_keepRun_163 : decode cX10_keepRun 163 = .ok (.aload_n 0, 1) := by decide +kernel
theorem dX10_keepRun_164 : decode cX10_keepRun 164 = .ok (.getfield 156, 3) := by decide +kernel
theorem dX10_keepRun_167 : decode cX10_keepRun 167 = .ok (.iload_n 1, 1) := by decide +kernel
theorem dX10_keepRun_168 : decode cX10_keepRun 168 = .ok (.iaload, 1) := by decide +kernel
theorem dX10_keepRun_169 : decode cX10_keepRun 169 = .ok (.iastore, 1) := by decide +kernel
theorem dX10_keepRun_170 : decode cX10_keepRun 170 = .ok (.iinc 1 1, 3) := by decide +kernel
theorem dX10_keepRun_173 : decode cX10_keepRun 173 = .ok (.goto (-29), 3) := by decide +kernel
theorem dX10_keepRun_176 : decode cX10_keepRun 176 = .ok (.return_, 1) := by decide +kernel
theorem dX10_frame_0 : decode cX10_frame 0 = .ok (.aload_n 0, 1) := by decide +kernel
theorem dX10_frame_1 : decode cX10_frame 1 = .ok (.getfield 135, 3) := by decide +kernel
theorem dX10_frame_4 : decode cX10_frame 4 = .ok (.aload_n 0, 1) := by decide +kernel
theorem dX10_frame_5 : decode cX10_frame 5 = .ok (.getfield 415, 3) := by decide +kernel
theorem dX10_frame_8 : decode cX10_frame 8 = .ok (.iload_n 1, 1) := by decide +kernel
theorem dX10_frame_9 : decode cX10_frame 9 = .ok (.iastore, 1) := by decide +kernel
theorem dX10_frame_10 : decode cX10_frame 10 = .ok (.aload_n 0, 1) := by decide +kernel
theorem dX10_frame_11 : decode cX10_frame 11 = .ok (.getfield 138, 3) := by decide +kernel
theorem dX10_frame_14 : decode cX10_frame 14 = .ok (.aload_n 0, 1) := by decide +kernel
theorem dX10_frame_15 : decode cX10_frame 15 = .ok (.getfield 415, 3) := by decide +kernel
theorem dX10_frame_18 : decode cX10_frame 18 = .ok (.iconst 0, 1) := by decide +kernel
theorem dX10_frame_19 : decode cX10_frame 19 = .ok (.iastore, 1) := by decide +kernel
theorem dX10_frame_20 : decode cX10_frame 20 = .ok (.aload_n 0, 1) := by decide +kernel
theorem dX10_frame_21 : decode cX10_frame 21 = .ok (.getfield 141, 3) := by decide +kernel
theorem dX10_frame_24 : decode cX10_frame 24 = .ok (.aload_n 0, 1) := by decide +kernel
theorem dX10_frame_25 : decode cX10_frame 25 = .ok (.getfield 415, 3) := by decide +kernel
theorem dX10_frame_28 : decode cX10_frame 28 = .ok (.iconst 0, 1) := by decide +kernel
theorem dX10_frame_29 : decode cX10_frame 29 = .ok (.iastore, 1) := by decide +kernel
theorem dX10_frame_30 : decode cX10_frame 30 = .ok (.iconst 0, 1) := by decide +kernel
theorem dX10_frame_31 : decode cX10_frame 31 = .ok (.istore_n 2, 1) := by decide +kernel
theorem dX10_frame_32 : decode cX10_frame 32 = .ok (.iload_n 2, 1) := by decide +kernel
theorem dX10_frame_33 : decode cX10_frame 33 = .ok (.bipush 12, 2) := by decide +kernel
theorem dX10_frame_35 : decode cX10_frame 35 = .ok (.if_icmp .ge 24, 3) := by decide +kernel
theorem dX10_frame_38 : decode cX10_frame 38 = .ok (.aload_n 0, 1) := by decide +kernel
theorem dX10_frame_39 : decode cX10_frame 39 = .ok (.getfield 144, 3) := by decide +kernel
theorem dX10_frame_42 : decode cX10_frame 42 = .ok (.bipush 12, 2) := by decide +kernel
theorem dX10_frame_44 : decode cX10_frame 44 = .ok (.aload_n 0, 1) := by decide +kernel
theorem dX10_frame_45 : decode cX10_frame 45 = .ok (.getfield 415, 3) := by decide +kernel
theorem dX10_frame_48 : decode cX10_frame 48 = .ok (.imul, 1) := by decide +kernel
theorem dX10_frame_49 : decode cX10_frame 49 = .ok (.iload_n 2, 1) := by decide +kernel
theorem dX10_frame_50 : decode cX10_frame 50 = .ok (.iadd, 1) := by decide +kernel
theorem dX10_frame_51 : decode cX10_frame 51 = .ok (.iconst 0, 1) := by decide +kernel
theorem dX10_frame_52 : decode cX10_frame 52 = .ok (.iastore, 1) := by decide +kernel
theorem dX10_frame_53 : decode cX10_frame 53 = .ok (.iinc 2 1, 3) := by decide +kernel
theorem dX10_frame_56 : decode cX10_frame 56 = .ok (.goto (-24), 3) := by decide +kernel
theorem dX10_frame_59 : decode cX10_frame 59 = .ok (.aload_n 0, 1) := by decide +kernel
theorem dX10_frame_60 : decode cX10_frame 60 = .ok (.dup, 1) := by decide +kernel
theorem dX10_frame_61 : decode cX10_frame 61 = .ok (.getfield 415, 3) := by decide +kernel
theorem dX10_frame_64 : decode cX10_frame 64 = .ok (.iconst 1, 1) := by decide +kernel
theorem dX10_frame_65 : decode cX10_frame 65 = .ok (.iadd, 1) := by decide +kernel
theorem dX10_frame_66 : decode cX10_frame 66 = .ok (.putfield 415, 3) := by decide +kernel
theorem dX10_frame_69 : decode cX10_frame 69 = .ok (.aload_n 0, 1) := by decide +kernel
theorem dX10_frame_70 : decode cX10_frame 70 = .ok (.aload_n 0, 1) := by decide +kernel
theorem dX10_frame_71 : decode cX10_frame 71 = .ok (.getfield 415, 3) := by decide +kernel
theorem dX10_frame_74 : decode cX10_frame 74 = .ok (.aload_n 0, 1) := by decide +kernel
theorem dX10_frame_75 : decode cX10_frame 75 = .ok (.getfield 418, 3) := by decide +kernel
theorem dX10_frame_78 : decode cX10_frame 78 = .ok (.if_icmp .le 10, 3) := by decide +kernel
theorem dX10_frame_81 : decode cX10_frame 81 = .ok (.aload_n 0, 1) := by decide +kernel
theorem dX10_frame_82 : decode cX10_frame 82 = .ok (.getfield 415, 3) := by decide +kernel
theorem dX10_frame_85 : decode cX10_frame 85 = .ok (.goto 7, 3) := by decide +kernel
theorem dX10_frame_88 : decode cX10_frame 88 = .ok (.aload_n 0, 1) := by decide +kernel
theorem dX10_frame_89 : decode cX10_frame 89 = .ok (.getfield 418, 3) := by decide +kernel
theorem dX10_frame_92 : decode cX10_frame 92 = .ok (.putfield 418, 3) := by decide +kernel
theorem dX10_frame_95 : decode cX10_frame 95 = .ok (.return_, 1) := by decide +kernel
theorem dX10_enters_0 : decode cX10_enters 0 = .ok (.iconst 0, 1) := by decide +kernel
theorem dX10_enters_1 : decode cX10_enters 1 = .ok (.istore_n 2, 1) := by decide +kernel
theorem dX10_enters_2 : decode cX10_enters 2 = .ok (.iload_n 2, 1) := by decide +kernel
theorem dX10_enters_3 : decode cX10_enters 3 = .ok (.aload_n 0, 1) := by decide +kernel
theorem dX10_enters_4 : decode cX10_enters 4 = .ok (.iload_n 1, 1) := by decide +kernel
theorem dX10_enters_5 : decode cX10_enters 5 = .ok (.invokevirtual 436, 3) := by decide +kernel
theorem dX10_enters_8 : decode cX10_enters 8 = .ok (.if_icmp .ge 30, 3) := by decide +kernel
theorem dX10_enters_11 : decode cX10_enters 11 = .ok (.aload_n 0, 1) := by decide +kernel
theorem dX10_enters_12 : decode cX10_enters 12 = .ok (.iload_n 2, 1) := by decide +kernel
theorem dX10_enters_13 : decode cX10_enters 13 = .ok (.iconst 2, 1) := by decide +kernel
theorem dX10_enters_14 : decode cX10_enters 14 = .ok (.iload_n 1, 1) := by decide +kernel
theorem dX10_enters_15 : decode cX10_enters 15 = .ok (.iconst 0, 1) := by decide +kernel
theorem dX10_enters_16 : decode cX10_enters 16 = .ok (.aload_n 0, 1) := by decide +kernel
theorem dX10_enters_17 : decode cX10_enters 17 = .ok (.getfield 335, 3) := by decide +kernel
theorem dX10_enters_20 : decode cX10_enters 20 = .ok (.invokevirtual 338, 3) := by decide +kernel
theorem dX10_enters_23 : decode cX10_enters 23 = .ok (.ifCond .eq 9, 3) := by decide +kernel
theorem dX10_enters_26 : decode cX10_enters 26 = .ok (.aload_n 0, 1) := by decide +kernel
theorem dX10_enters_27 : decode cX10_enters 27 = .ok (.iload_n 2, 1) := by decide +kernel
theorem dX10_enters_28 : decode cX10_enters 28 = .ok (.iload_n 1, 1) := by decide +kernel
theorem dX10_enters_29 : decode cX10_enters 29 = .ok (.invokevirtual 439, 3) := by decide +kernel
theorem dX10_enters_32 : decode cX10_enters 32 = .ok (.iinc 2 1, 3) := by decide +kernel
theorem dX10_enters_35 : decode cX10_enters 35 = .ok (.goto (-33), 3) := by decide +kernel
theorem dX10_enters_38 : decode cX10_enters 38 = .ok (.return_, 1) := by decide +kernel
theorem dX10_tellArguments_0 : decode cX10_tellArguments 0 = .ok (.iconst 0, 1) := by decide +kernel
theorem dX10_tellArguments_1 : decode cX10_tellArguments 1 = .ok (.istore_n 3, 1) := by decide +kernel
theorem dX10_tellArguments_2 : decode cX10_tellArguments 2 = .ok (.iload_n 3, 1) := by decide +kernel
theorem dX10_tellArguments_3 : decode cX10_tellArguments 3 = .ok (.aload_n 0, 1) := by decide +kernel
theorem dX10_tellArguments_4 : decode cX10_tellArguments 4 = .ok (.getfield 17, 3) := by decide +kernel
theorem dX10_tellArguments_7 : decode cX10_tellArguments 7 = .ok (.iload_n 2, 1) := by decide +kernel
theorem dX10_tellArguments_8 : decode cX10_tellArguments 8 = .ok (.iaload, 1) := by decide +kernel
theorem dX10_tellArguments_9 : decode cX10_tellArguments 9 = .ok (.if_icmp .ge 30, 3) := by decide +kernel
theorem dX10_tellArguments_12 : decode cX10_tellArguments 12 = .ok (.aload_n 0, 1) := by decide +kernel
theorem dX10_tellArguments_13 : decode cX10_tellArguments 13 = .ok (.iload_n 1, 1) := by decide +kernel
theorem dX10_tellArguments_14 : decode cX10_tellArguments 14 = .ok (.aload_n 0, 1) := by decide +kernel
theorem dX10_tellArguments_15 : decode cX10_tellArguments 15 = .ok (.getfield 144, 3) := by decide +kernel
theorem dX10_tellArguments_18 : decode cX10_tellArguments 18 = .ok (.bipush 12, 2) := by decide +kernel
theorem dX10_tellArguments_20 : decode cX10_tellArguments 20 = .ok (.aload_n 0, 1) := by decide +kernel
theorem dX10_tellArguments_21 : decode cX10_tellArguments 21 = .ok (.getfield 415, 3) := by decide +kernel
theorem dX10_tellArguments_24 : decode cX10_tellArguments 24 = .ok (.iconst 1, 1) := by decide +kernel
theorem dX10_tellArguments_25 : decode cX10_tellArguments 25 = .ok (.isub, 1) := by decide +kernel
theorem dX10_tellArguments_26 : decode cX10_tellArguments 26 = .ok (.imul, 1) := by decide +kernel
theorem dX10_tellArguments_27 : decode cX10_tellArguments 27 = .ok (.iload_n 3, 1) := by decide +kernel
theorem dX10_tellArguments_28 : decode cX10_tellArguments 28 = .ok (.iadd, 1) := by decide +kernel
theorem dX10_tellArguments_29 : decode cX10_tellArguments 29 = .ok (.iaload, 1) := by decide +kernel
theorem dX10_tellArguments_30 : decode cX10_tellArguments 30 = .ok (.invokevirtual 442, 3) := by decide +kernel
theorem dX10_tellArguments_33 : decode cX10_tellArguments 33 = .ok (.iinc 3 1, 3) := by decide +kernel
theorem dX10_tellArguments_36 : decode cX10_tellArguments 36 = .ok (.goto (-34), 3) := by decide +kernel
theorem dX10_tellArguments_39 : decode cX10_tellArguments 39 = .ok (.aload_n 0, 1) := by decide +kernel
theorem dX10_tellArguments_40 : decode cX10_tellArguments 40 = .ok (.getfield 17, 3) := by decide +kernel
theorem dX10_tellArguments_43 : decode cX10_tellArguments 43 = .ok (.iload_n 2, 1) := by decide +kernel
theorem dX10_tellArguments_44 : decode cX10_tellArguments 44 = .ok (.iaload, 1) := by decide +kernel
theorem dX10_tellArguments_45 : decode cX10_tellArguments 45 = .ok (.ifCond .ne 9, 3) := by decide +kernel
theorem dX10_tellArguments_48 : decode cX10_tellArguments 48 = .ok (.aload_n 0, 1) := by decide +kernel
theorem dX10_tellArguments_49 : decode cX10_tellArguments 49 = .ok (.iload_n 1, 1) := by decide +kernel
theorem dX10_tellArguments_50 : decode cX10_tellArguments 50 = .ok (.iconst 0, 1) := by decide +kernel
theorem dX10_tellArguments_51 : decode cX10_tellArguments 51 = .ok (.invokevirtual 442, 3) := by decide +kernel
theorem dX10_tellArguments_54 : decode cX10_tellArguments 54 = .ok (.return_, 1) := by decide +kernel
theorem dX10_top_0 : decode cX10_top 0 = .ok (.aload_n 0, 1) := by decide +kernel
theorem dX10_top_1 : decode cX10_top 1 = .ok (.getfield 147, 3) := by decide +kernel
theorem dX10_top_4 : decode cX10_top 4 = .ok (.bipush 12, 2) := by decide +kernel
theorem dX10_top_6 : decode cX10_top 6 = .ok (.aload_n 0, 1) := by decide +kernel
theorem dX10_top_7 : decode cX10_top 7 = .ok (.getfield 415, 3) := by decide +kernel
theorem dX10_top_10 : decode cX10_top 10 = .ok (.iconst 1, 1) := by decide +kernel
theorem dX10_top_11 : decode cX10_top 11 = .ok (.isub, 1) := by decide +kernel
theorem dX10_top_12 : decode cX10_top 12 = .ok (.imul, 1) := by decide +kernel
theorem dX10_top_13 : decode cX10_top 13 = .ok (.aload_n 0, 1) := by decide +kernel
theorem dX10_top_14 : decode cX10_top 14 = .ok (.getfield 141, 3) := by decide +kernel
theorem dX10_top_17 : decode cX10_top 17 = .ok (.aload_n 0, 1) := by decide +kernel
theorem dX10_top_18 : decode cX10_top 18 = .ok (.getfield 415, 3) := by decide +kernel
theorem dX10_top_21 : decode cX10_top 21 = .ok (.iconst 1, 1) := by decide +kernel
theorem dX10_top_22 : decode cX10_top 22 = .ok (.isub, 1) := by decide +kernel
theorem dX10_top_23 : decode cX10_top 23 = .ok (.iaload, 1) := by decide +kernel
theorem dX10_top_24 : decode cX10_top 24 = .ok (.iadd, 1) := by decide +kernel
theorem dX10_top_25 : decode cX10_top 25 = .ok (.iconst 1, 1) := by decide +kernel
theorem dX10_top_26 : decode cX10_top 26 = .ok (.isub, 1) := by decide +kernel
theorem dX10_top_27 : decode cX10_top 27 = .ok (.iload_n 1, 1) := by decide +kernel
theorem dX10_top_28 : decode cX10_top 28 = .ok (.isub, 1) := by decide +kernel
theorem dX10_top_29 : decode cX10_top 29 = .ok (.iaload, 1) := by decide +kernel
theorem dX10_top_30 : decode cX10_top 30 = .ok (.ireturn, 1) := by decide +kernel
theorem dX10_setTop_0 : decode cX10_setTop 0 = .ok (.aload_n 0, 1) := by decide +kernel
theorem dX10_setTop_1 : decode cX10_setTop 1 = .ok (.getfield 147, 3) := by decide +kernel
theorem dX10_setTop_4 : decode cX10_setTop 4 = .ok (.bipush 12, 2) := by decide +kernel
theorem dX10_setTop_6 : decode cX10_setTop 6 = .ok (.aload_n 0, 1) := by decide +kernel
theorem dX10_setTop_7 : decode cX10_setTop 7 = .ok (.getfield 415, 3) := by decide +kernel
theorem dX10_setTop_10 : decode cX10_setTop 10 = .ok (.iconst 1, 1) := by decide +kernel
theorem dX10_setTop_11 : decode cX10_setTop 11 = .ok (.isub, 1) := by decide +kernel
theorem dX10_setTop_12 : decode cX10_setTop 12 = .ok (.imul, 1) := by decide +kernel
theorem dX10_setTop_13 : decode cX10_setTop 13 = .ok (.aload_n 0, 1) := by decide +kernel
theorem dX10_setTop_14 : decode cX10_setTop 14 = .ok (.getfield 141, 3) := by decide +kernel
theorem dX10_setTop_17 : decode cX10_setTop 17 = .ok (.aload_n 0, 1) := by decide +kernel
theorem dX10_setTop_18 : decode cX10_setTop 18 = .ok (.getfield 415, 3) := by decide +kernel
theorem dX10_setTop_21 : decode cX10_setTop 21 = .ok (.iconst 1, 1) := by decide +kernel
theorem dX10_setTop_22 : decode cX10_setTop 22 = .ok (.isub, 1) := by decide +kernel
theorem dX10_setTop_23 : decode cX10_setTop 23 = .ok (.iaload, 1) := by decide +kernel
theorem dX10_setTop_24 : decode cX10_setTop 24 = .ok (.iadd, 1) := by decide +kernel
theorem dX10_setTop_25 : decode cX10_setTop 25 = .ok (.iconst 1, 1) := by decide +kernel
theorem dX10_setTop_26 : decode cX10_setTop 26 = .ok (.isub, 1) := by decide +kernel
theorem dX10_setTop_27 : decode cX10_setTop 27 = .ok (.iload_n 1, 1) := by decide +kernel
theorem dX10_setTop_28 : decode cX10_setTop 28 = .ok (.iastore, 1) := by decide +kernel
theorem dX10_setTop_29 : decode cX10_setTop 29 = .ok (.return_, 1) := by decide +kernel
theorem dX10_take_0 : decode cX10_take 0 = .ok (.aload_n 0, 1) := by decide +kernel
theorem dX10_take_1 : decode cX10_take 1 = .ok (.getfield 141, 3) := by decide +kernel
theorem dX10_take_4 : decode cX10_take 4 = .ok (.aload_n 0, 1) := by decide +kernel
theorem dX10_take_5 : decode cX10_take 5 = .ok (.getfield 415, 3) := by decide +kernel
theorem dX10_take_8 : decode cX10_take 8 = .ok (.iconst 1, 1) := by decide +kernel
theorem dX10_take_9 : decode cX10_take 9 = .ok (.isub, 1) := by decide +kernel
theorem dX10_take_10 : decode cX10_take 10 = .ok (.dup2, 1) := by decide +kernel
theorem dX10_take_11 : decode cX10_take 11 = .ok (.iaload, 1) := by decide +kernel
theorem dX10_take_12 : decode cX10_take 12 = .ok (.iconst 1, 1) := by decide +kernel
theorem dX10_take_13 : decode cX10_take 13 = .ok (.isub, 1) := by decide +kernel
theorem dX10_take_14 : decode cX10_take 14 = .ok (.iastore, 1) := by decide +kernel
theorem dX10_take_15 : decode cX10_take 15 = .ok (.aload_n 0, 1) := by decide +kernel
theorem dX10_take_16 : decode cX10_take 16 = .ok (.getfield 147, 3) := by decide +kernel
theorem dX10_take_19 : decode cX10_take 19 = .ok (.bipush 12, 2) := by decide +kernel
theorem dX10_take_21 : decode cX10_take 21 = .ok (.aload_n 0, 1) := by decide +kernel
theorem dX10_take_22 : decode cX10_take 22 = .ok (.getfield 415, 3) := by decide +kernel
theorem dX10_take_25 : decode cX10_take 25 = .ok (.iconst 1, 1) := by decide +kernel
theorem dX10_take_26 : decode cX10_take 26 = .ok (.isub, 1) := by decide +kernel
theorem dX10_take_27 : decode cX10_take 27 = .ok (.imul, 1) := by decide +kernel
theorem dX10_take_28 : decode cX10_take 28 = .ok (.aload_n 0, 1) := by decide +kernel
theorem dX10_take_29 : decode cX10_take 29 = .ok (.getfield 141, 3) := by decide +kernel
theorem dX10_take_32 : decode cX10_take 32 = .ok (.aload_n 0, 1) := by decide +kernel
theorem dX10_take_33 : decode cX10_take 33 = .ok (.getfield 415, 3) := by decide +kernel
theorem dX10_take_36 : decode cX10_take 36 = .ok (.iconst 1, 1) := by decide +kernel
theorem dX10_take_37 : decode cX10_take 37 = .ok (.isub, 1) := by decide +kernel
theorem dX10_take_38 : decode cX10_take 38 = .ok (.iaload, 1) := by decide +kernel
theorem dX10_take_39 : decode cX10_take 39 = .ok (.iadd, 1) := by decide +kernel
theorem dX10_take_40 : decode cX10_take 40 = .ok (.iaload, 1) := by decide +kernel
theorem dX10_take_41 : decode cX10_take 41 = .ok (.ireturn, 1) := by decide +kernel
theorem dX10_give_0 : decode cX10_give 0 = .ok (.aload_n 0, 1) := by decide +kernel
theorem dX10_give_1 : decode cX10_give 1 = .ok (.getfield 147, 3) := by decide +kernel
theorem dX10_give_4 : decode cX10_give 4 = .ok (.bipush 12, 2) := by decide +kernel
theorem dX10_give_6 : decode cX10_give 6 = .ok (.aload_n 0, 1) := by decide +kernel
theorem dX10_give_7 : decode cX10_give 7 = .ok (.getfield 415, 3) := by decide +kernel
theorem dX10_give_10 : decode cX10_give 10 = .ok (.iconst 1, 1) := by decide +kernel
theorem dX10_give_11 : decode cX10_give 11 = .ok (.isub, 1) := by decide +kernel
theorem dX10_give_12 : decode cX10_give 12 = .ok (.imul, 1) := by decide +kernel
theorem dX10_give_13 : decode cX10_give 13 = .ok (.aload_n 0, 1) := by decide +kernel
theorem dX10_give_14 : decode cX10_give 14 = .ok (.getfield 141, 3) := by decide +kernel
theorem dX10_give_17 : decode cX10_give 17 = .ok (.aload_n 0, 1) := by decide +kernel
theorem dX10_give_18 : decode cX10_give 18 = .ok (.getfield 415, 3) := by decide +kernel
theorem dX10_give_21 : decode cX10_give 21 = .ok (.iconst 1, 1) := by decide +kernel
theorem dX10_give_22 : decode cX10_give 22 = .ok (.isub, 1) := by decide +kernel
theorem dX10_give_23 : decode cX10_give 23 = .ok (.iaload, 1) := by decide +kernel
theorem dX10_give_24 : decode cX10_give 24 = .ok (.iadd, 1) := by decide +kernel
theorem dX10_give_25 : decode cX10_give 25 = .ok (.iload_n 1, 1) := by decide +kernel
theorem dX10_give_26 : decode cX10_give 26 = .ok (.iastore, 1) := by decide +kernel
theorem dX10_give_27 : decode cX10_give 27 = .ok (.aload_n 0, 1) := by decide +kernel
theorem dX10_give_28 : decode cX10_give 28 = .ok (.getfield 141, 3) := by decide +kernel
theorem dX10_give_31 : decode cX10_give 31 = .ok (.aload_n 0, 1) := by decide +kernel
theorem dX10_give_32 : decode cX10_give 32 = .ok (.getfield 415, 3) := by decide +kernel
theorem dX10_give_35 : decode cX10_give 35 = .ok (.iconst 1, 1) := by decide +kernel
theorem dX10_give_36 : decode cX10_give 36 = .ok (.isub, 1) := by decide +kernel
theorem dX10_give_37 : decode cX10_give 37 = .ok (.dup2, 1) := by decide +kernel
theorem dX10_give_38 : decode cX10_give 38 = .ok (.iaload, 1) := by decide +kernel
theorem dX10_give_39 : decode cX10_give 39 = .ok (.iconst 1, 1) := by decide +kernel
theorem dX10_give_40 : decode cX10_give 40 = .ok (.iadd, 1) := by decide +kernel
theorem dX10_give_41 : decode cX10_give 41 = .ok (.iastore, 1) := by decide +kernel
theorem dX10_give_42 : decode cX10_give 42 = .ok (.return_, 1) := by decide +kernel
theorem dX10_octetAt_0 : decode cX10_octetAt 0 = .ok (.aload_n 0, 1) := by decide +kernel
theorem dX10_octetAt_1 : decode cX10_octetAt 1 = .ok (.iload_n 1, 1) := by decide +kernel
theorem dX10_octetAt_2 : decode cX10_octetAt 2 = .ok (.invokevirtual 445, 3) := by decide +kernel
theorem dX10_octetAt_5 : decode cX10_octetAt 5 = .ok (.ifCond .eq 18, 3) := by decide +kernel
theorem dX10_octetAt_8 : decode cX10_octetAt 8 = .ok (.aload_n 0, 1) := by decide +kernel
theorem dX10_octetAt_9 : decode cX10_octetAt 9 = .ok (.getfield 75, 3) := by decide +kernel
theorem dX10_octetAt_12 : decode cX10_octetAt 12 = .ok (.sipush 1000, 3) := by decide +kernel
theorem dX10_octetAt_15 : decode cX10_octetAt 15 = .ok (.iload_n 1, 1) := by decide +kernel
theorem dX10_octetAt_16 : decode cX10_octetAt 16 = .ok (.imul, 1) := by decide +kernel
theorem dX10_octetAt_17 : decode cX10_octetAt 17 = .ok (.iload_n 2, 1) := by decide +kernel
theorem dX10_octetAt_18 : decode cX10_octetAt 18 = .ok (.iadd, 1) := by decide +kernel
theorem dX10_octetAt_19 : decode cX10_octetAt 19 = .ok (.iaload, 1) := by decide +kernel
theorem dX10_octetAt_20 : decode cX10_octetAt 20 = .ok (.goto 15, 3) := by decide +kernel
theorem dX10_octetAt_23 : decode cX10_octetAt 23 = .ok (.aload_n 0, 1) := by decide +kernel
theorem dX10_octetAt_24 : decode cX10_octetAt 24 = .ok (.getfield 26, 3) := by decide +kernel
theorem dX10_octetAt_27 : decode cX10_octetAt 27 = .ok (.sipush 400, 3) := by decide +kernel
theorem dX10_octetAt_30 : decode cX10_octetAt 30 = .ok (.iload_n 1, 1) := by decide +kernel
theorem dX10_octetAt_31 : decode cX10_octetAt 31 = .ok (.imul, 1) := by decide +kernel
theorem dX10_octetAt_32 : decode cX10_octetAt 32 = .ok (.iload_n 2, 1) := by decide +kernel
theorem dX10_octetAt_33 : decode cX10_octetAt 33 = .ok (.iadd, 1) := by decide +kernel
theorem dX10_octetAt_34 : decode cX10_octetAt 34 = .ok (.iaload, 1) := by decide +kernel
theorem dX10_octetAt_35 : decode cX10_octetAt 35 = .ok (.ireturn, 1) := by decide +kernel
theorem dX10_step_0 : decode cX10_step 0 = .ok (.aload_n 0, 1) := by decide +kernel
theorem dX10_step_1 : decode cX10_step 1 = .ok (.getfield 135, 3) := by decide +kernel
theorem dX10_step_4 : decode cX10_step 4 = .ok (.aload_n 0, 1) := by decide +kernel
theorem dX10_step_5 : decode cX10_step 5 = .ok (.getfield 415, 3) := by decide +kernel
theorem dX10_step_8 : decode cX10_step 8 = .ok (.iconst 1, 1) := by decide +kernel
theorem dX10_step_9 : decode cX10_step 9 = .ok (.isub, 1) := by decide +kernel
theorem dX10_step_10 : decode cX10_step 10 = .ok (.iaload, 1) := by decide +kernel
theorem dX10_step_11 : decode cX10_step 11 = .ok (.istore_n 1, 1) := by decide +kernel
theorem dX10_step_12 : decode cX10_step 12 = .ok (.aload_n 0, 1) := by decide +kernel
theorem dX10_step_13 : decode cX10_step 13 = .ok (.getfield 138, 3) := by decide +kernel
theorem dX10_step_16 : decode cX10_step 16 = .ok (.aload_n 0, 1) := by decide +kernel
theorem dX10_step_17 : decode cX10_step 17 = .ok (.getfield 415, 3) := by decide +kernel
theorem dX10_step_20 : decode cX10_step 20 = .ok (.iconst 1, 1) := by decide +kernel
theorem dX10_step_21 : decode cX10_step 21 = .ok (.isub, 1) := by decide +kernel
theorem dX10_step_22 : decode cX10_step 22 = .ok (.iaload, 1) := by decide +kernel
theorem dX10_step_23 : decode cX10_step 23 = .ok (.istore_n 2, 1) := by decide +kernel
theorem dX10_step_24 : decode cX10_step 24 = .ok (.aload_n 0, 1) := by decide +kernel
theorem dX10_step_25 : decode cX10_step 25 = .ok (.iload_n 1, 1) := by decide +kernel
theorem dX10_step_26 : decode cX10_step 26 = .ok (.iload_n 2, 1) := by decide +kernel
theorem dX10_step_27 : decode cX10_step 27 = .ok (.invokevirtual 448, 3) := by decide +kernel
theorem dX10_step_30 : decode cX10_step 30 = .ok (.istore_n 3, 1) := by decide +kernel
theorem dX10_step_31 : decode cX10_step 31 = .ok (.iload_n 3, 1) := by decide +kernel
theorem dX10_step_32 : decode cX10_step 32 = .ok (.bipush 48, 2) := by decide +kernel
theorem dX10_step_34 : decode cX10_step 34 = .ok (.bipush 58, 2) := by decide +kernel
theorem dX10_step_36 : decode cX10_step 36 = .ok (.invokestatic 217, 3) := by decide +kernel
theorem dX10_step_39 : decode cX10_step 39 = .ok (.ifCond .eq 11, 3) := by decide +kernel
theorem dX10_step_42 : decode cX10_step 42 = .ok (.aload_n 0, 1) := by decide +kernel
theorem dX10_step_43 : decode cX10_step 43 = .ok (.iload_n 1, 1) := by decide +kernel
theorem dX10_step_44 : decode cX10_step 44 = .ok (.iload_n 2, 1) := by decide +kernel
theorem dX10_step_45 : decode cX10_step 45 = .ok (.iload_n 3, 1) := by decide +kernel
theorem dX10_step_46 : decode cX10_step 46 = .ok (.invokevirtual 451, 3) := by decide +kernel
theorem dX10_step_49 : decode cX10_step 49 = .ok (.return_, 1) := by decide +kernel
theorem dX10_step_50 : decode cX10_step 50 = .ok (.aload_n 0, 1) := by decide +kernel
theorem dX10_step_51 : decode cX10_step 51 = .ok (.iload_n 1, 1) := by decide +kernel
theorem dX10_step_52 : decode cX10_step 52 = .ok (.invokevirtual 445, 3) := by decide +kernel
theorem dX10_step_55 : decode cX10_step 55 = .ok (.ifCond .eq 18, 3) := by decide +kernel
theorem dX10_step_58 : decode cX10_step 58 = .ok (.aload_n 0, 1) := by decide +kernel
theorem dX10_step_59 : decode cX10_step 59 = .ok (.getfield 81, 3) := by decide +kernel
theorem dX10_step_62 : decode cX10_step 62 = .ok (.sipush 1000, 3) := by decide +kernel
theorem dX10_step_65 : decode cX10_step 65 = .ok (.iload_n 1, 1) := by decide +kernel
theorem dX10_step_66 : decode cX10_step 66 = .ok (.imul, 1) := by decide +kernel
theorem dX10_step_67 : decode cX10_step 67 = .ok (.iload_n 2, 1) := by decide +kernel
theorem dX10_step_68 : decode cX10_step 68 = .ok (.iadd, 1) := by decide +kernel
theorem dX10_step_69 : decode cX10_step 69 = .ok (.iaload, 1) := by decide +kernel
theorem dX10_step_70 : decode cX10_step 70 = .ok (.goto 4, 3) := by decide +kernel
theorem dX10_step_73 : decode cX10_step 73 = .ok (.iload_n 2, 1) := by decide +kernel
theorem dX10_step_74 : decode cX10_step 74 = .ok (.istore 4, 2) := by decide +kernel
theorem dX10_step_76 : decode cX10_step 76 = .ok (.iload 4, 2) := by decide +kernel
theorem dX10_step_78 : decode cX10_step 78 = .ok (.iconst (-1), 1) := by decide +kernel
theorem dX10_step_79 : decode cX10_step 79 = .ok (.if_icmp .ne 22, 3) := by decide +kernel
theorem dX10_step_82 : decode cX10_step 82 = .ok (.aload_n 0, 1) := by decide +kernel
theorem dX10_step_83 : decode cX10_step 83 = .ok (.getfield 138, 3) := by decide +kernel
theorem dX10_step_86 : decode cX10_step 86 = .ok (.aload_n 0, 1) := by decide +kernel
theorem dX10_step_87 : decode cX10_step 87 = .ok (.getfield 415, 3) := by decide +kernel
theorem dX10_step_90 : decode cX10_step 90 = .ok (.iconst 1, 1) := by decide +kernel
theorem dX10_step_91 : decode cX10_step 91 = .ok (.isub, 1) := by decide +kernel
theorem dX10_step_92 : decode cX10_step 92 = .ok (.aload_n 0, 1) := by decide +kernel
theorem dX10_step_93 : decode cX10_step 93 = .ok (.iload_n 1, 1) := by decide +kernel
theorem dX10_step_94 : decode cX10_step 94 = .ok (.iload_n 2, 1) := by decide +kernel
theorem dX10_step_95 : decode cX10_step 95 = .ok (.iload_n 3, 1) := by decide +kernel
theorem dX10_step_96 : decode cX10_step 96 = .ok (.invokevirtual 454, 3) := by decide +kernel
theorem dX10_step_99 : decode cX10_step 99 = .ok (.iastore, 1) := by decide +kernel
theorem dX10_step_100 : decode cX10_step 100 = .ok (.return_, 1) := by decide +kernel
theorem dX10_step_101 : decode cX10_step 101 = .ok (.aload_n 0, 1) := by decide +kernel
theorem dX10_step_102 : decode cX10_step 102 = .ok (.iload_n 1, 1) := by decide +kernel
theorem dX10_step_103 : decode cX10_step 103 = .ok (.iload_n 2, 1) := by decide +kernel
theorem dX10_step_104 : decode cX10_step 104 = .ok (.iload_n 3, 1) := by decide +kernel
theorem dX10_step_105 : decode cX10_step 105 = .ok (.invokevirtual 457, 3) := by decide +kernel
theorem dX10_step_108 : decode cX10_step 108 = .ok (.ifCond .eq 4, 3) := by decide +kernel
theorem dX10_step_111 : decode cX10_step 111 = .ok (.return_, 1) := by decide +kernel
theorem dX10_step_112 : decode cX10_step 112 = .ok (.aload_n 0, 1) := by decide +kernel
theorem dX10_step_113 : decode cX10_step 113 = .ok (.getfield 412, 3) := by decide +kernel
theorem dX10_step_116 : decode cX10_step 116 = .ok (.aload_n 0, 1) := by decide +kernel
theorem dX10_step_117 : decode cX10_step 117 = .ok (.getfield 388, 3) := by decide +kernel
theorem dX10_step_120 : decode cX10_step 120 = .ok (.if_icmp .ne 9, 3) := by decide +kernel
theorem dX10_step_123 : decode cX10_step 123 = .ok (.aload_n 0, 1) := by decide +kernel
theorem dX10_step_124 : decode cX10_step 124 = .ok (.iconst 2, 1) := by decide +kernel
theorem dX10_step_125 : decode cX10_step 125 = .ok (.putfield 403, 3) := by decide +kernel
theorem dX10_step_128 : decode cX10_step 128 = .ok (.return_, 1) := by decide +kernel
theorem dX10_step_129 : decode cX10_step 129 = .ok (.aload_n 0, 1) := by decide +kernel
theorem dX10_step_130 : decode cX10_step 130 = .ok (.dup, 1) := by decide +kernel
theorem dX10_step_131 : decode cX10_step 131 = .ok (.getfield 412, 3) := by decide +kernel
theorem dX10_step_134 : decode cX10_step 134 = .ok (.iconst 1, 1) := by decide +kernel
theorem dX10_step_135 : decode cX10_step 135 = .ok (.iadd, 1) := by decide +kernel
theorem dX10_step_136 : decode cX10_step 136 = .ok (.putfield 412, 3) := by decide +kernel
theorem dX10_step_139 : decode cX10_step 139 = .ok (.aload_n 0, 1) := by decide +kernel
theorem dX10_step_140 : decode cX10_step 140 = .ok (.iconst 0, 1) := by decide +kernel
theorem dX10_step_141 : decode cX10_step 141 = .ok (.putfield 424, 3) := by decide +kernel
theorem dX10_step_144 : decode cX10_step 144 = .ok (.aload_n 0, 1) := by decide +kernel
theorem dX10_step_145 : decode cX10_step 145 = .ok (.getfield 415, 3) := by decide +kernel
theorem dX10_step_148 : decode cX10_step 148 = .ok (.iconst 1, 1) := by decide +kernel
theorem dX10_step_149 : decode cX10_step 149 = .ok (.isub, 1) := by decide +kernel
theorem dX10_step_150 : decode cX10_step 150 = .ok (.istore 5, 2) := by decide +kernel
theorem dX10_step_152 : decode cX10_step 152 = .ok (.aload_n 0, 1) := by decide +kernel
theorem dX10_step_153 : decode cX10_step 153 = .ok (.iload_n 1, 1) := by decide +kernel
theorem dX10_step_154 : decode cX10_step 154 = .ok (.iload_n 2, 1) := by decide +kernel
theorem dX10_step_155 : decode cX10_step 155 = .ok (.iload_n 3, 1) := by decide +kernel
theorem dX10_step_156 : decode cX10_step 156 = .ok (.iload 4, 2) := by decide +kernel
theorem dX10_step_158 : decode cX10_step 158 = .ok (.invokevirtual 460, 3) := by decide +kernel
theorem dX10_step_161 : decode cX10_step 161 = .ok (.istore 6, 2) := by decide +kernel
theorem dX10_step_163 : decode cX10_step 163 = .ok (.aload_n 0, 1) := by decide +kernel
theorem dX10_step_164 : decode cX10_step 164 = .ok (.getfield 424, 3) := by decide +kernel
theorem dX10_step_167 : decode cX10_step 167 = .ok (.ifCond .eq 21, 3) := by decide +kernel
theorem dX10_step_170 : decode cX10_step 170 = .ok (.aload_n 0, 1) := by decide +kernel
theorem dX10_step_171 : decode cX10_step 171 = .ok (.iload_n 1, 1) := by decide +kernel
theorem dX10_step_172 : decode cX10_step 172 = .ok (.putfield 427, 3) := by decide +kernel
theorem dX10_step_175 : decode cX10_step 175 = .ok (.aload_n 0, 1) := by decide +kernel
theorem dX10_step_176 : decode cX10_step 176 = .ok (.iload 4, 2) := by decide +kernel
theorem dX10_step_178 : decode cX10_step 178 = .ok (.putfield 430, 3) := by decide +kernel
theorem dX10_step_181 : decode cX10_step 181 = .ok (.aload_n 0, 1) := by decide +kernel
theorem dX10_step_182 : decode cX10_step 182 = .ok (.invokevirtual 464, 3) := by decide +kernel
theorem dX10_step_185 : decode cX10_step 185 = .ok (.goto 37, 3) := by decide +kernel
theorem dX10_step_188 : decode cX10_step 188 = .ok (.aload_n 0, 1) := by decide +kernel
theorem dX10_step_189 : decode cX10_step 189 = .ok (.getfield 415, 3) := by decide +kernel
theorem dX10_step_192 : decode cX10_step 192 = .ok (.iconst 1, 1) := by decide +kernel
theorem dX10_step_193 : decode cX10_step 193 = .ok (.isub, 1) := by decide +kernel
theorem dX10_step_194 : decode cX10_step 194 = .ok (.iload 5, 2) := by decide +kernel
theorem dX10_step_196 : decode cX10_step 196 = .ok (.if_icmp .ne 26, 3) := by decide +kernel
theorem dX10_step_199 : decode cX10_step 199 = .ok (.aload_n 0, 1) := by decide +kernel
theorem dX10_step_200 : decode cX10_step 200 = .ok (.getfield 403, 3) := by decide +kernel
theorem dX10_step_203 : decode cX10_step 203 = .ok (.iconst (-1), 1) := by decide +kernel
theorem dX10_step_204 : decode cX10_step 204 = .ok (.if_icmp .ne 18, 3) := by decide +kernel
theorem dX10_step_207 : decode cX10_step 207 = .ok (.iload_n 3, 1) := by decide +kernel
theorem dX10_step_208 : decode cX10_step 208 = .ok (.bipush 42, 2) := by decide +kernel
theorem dX10_step_210 : decode cX10_step 210 = .ok (.if_icmp .eq 12, 3) := by decide +kernel
theorem dX10_step_213 : decode cX10_step 213 = .ok (.aload_n 0, 1) := by decide +kernel
theorem dX10_step_214 : decode cX10_step 214 = .ok (.iload_n 1, 1) := by decide +kernel
theorem dX10_step_215 : decode cX10_step 215 = .ok (.iload_n 2, 1) := by decide +kernel
theorem dX10_step_216 : decode cX10_step 216 = .ok (.iload_n 3, 1) := by decide +kernel
theorem dX10_step_217 : decode cX10_step 217 = .ok (.iload 6, 2) := by decide +kernel
theorem dX10_step_219 : decode cX10_step 219 = .ok (.invokevirtual 467, 3) := by decide +kernel
theorem dX10_step_222 : decode cX10_step 222 = .ok (.return_, 1) := by decide +kernel
theorem dX10_ahead_0 : decode cX10_ahead 0 = .ok (.aload_n 0, 1) := by decide +kernel
theorem dX10_ahead_1 : decode cX10_ahead 1 = .ok (.iload_n 1, 1) := by decide +kernel
theorem dX10_ahead_2 : decode cX10_ahead 2 = .ok (.invokevirtual 436, 3) := by decide +kernel
theorem dX10_ahead_5 : decode cX10_ahead 5 = .ok (.istore 4, 2) := by decide +kernel
theorem dX10_ahead_7 : decode cX10_ahead 7 = .ok (.iconst 0, 1) := by decide +kernel
theorem dX10_ahead_8 : decode cX10_ahead 8 = .ok (.istore 5, 2) := by decide +kernel
theorem dX10_ahead_10 : decode cX10_ahead 10 = .ok (.iload 5, 2) := by decide +kernel
theorem dX10_ahead_12 : decode cX10_ahead 12 = .ok (.iload 4, 2) := by decide +kernel
theorem dX10_ahead_14 : decode cX10_ahead 14 = .ok (.if_icmp .ge 81, 3) := by decide +kernel
theorem dX10_ahead_17 : decode cX10_ahead 17 = .ok (.aload_n 0, 1) := by decide +kernel
theorem dX10_ahead_18 : decode cX10_ahead 18 = .ok (.iload 5, 2) := by decide +kernel
theorem dX10_ahead_20 : decode cX10_ahead 20 = .ok (.iconst 0, 1) := by decide +kernel
theorem dX10_ahead_21 : decode cX10_ahead 21 = .ok (.iload_n 1, 1) := by decide +kernel
theorem dX10_ahead_22 : decode cX10_ahead 22 = .ok (.iload_n 2, 1) := by decide +kernel
theorem dX10_ahead_23 : decode cX10_ahead 23 = .ok (.iload 4, 2) := by decide +kernel
theorem dX10_ahead_25 : decode cX10_ahead 25 = .ok (.invokevirtual 338, 3) := by decide +kernel
theorem dX10_ahead_28 : decode cX10_ahead 28 = .ok (.ifCond .eq 10, 3) := by decide +kernel
theorem dX10_ahead_31 : decode cX10_ahead 31 = .ok (.aload_n 0, 1) := by decide +kernel
theorem dX10_ahead_32 : decode cX10_ahead 32 = .ok (.iload 5, 2) := by decide +kernel
theorem dX10_ahead_34 : decode cX10_ahead 34 = .ok (.iconst 0, 1) := by decide +kernel
theorem dX10_ahead_35 : decode cX10_ahead 35 = .ok (.invokevirtual 442, 3) := by decide +kernel
theorem dX10_ahead_38 : decode cX10_ahead 38 = .ok (.aload_n 0, 1) := by decide +kernel
theorem dX10_ahead_39 : decode cX10_ahead 39 = .ok (.iload 5, 2) := by decide +kernel
theorem dX10_ahead_41 : decode cX10_ahead 41 = .ok (.bipush 6, 2) := by decide +kernel
theorem dX10_ahead_43 : decode cX10_ahead 43 = .ok (.iload_n 1, 1) := by decide +kernel
theorem dX10_ahead_44 : decode cX10_ahead 44 = .ok (.iload_n 2, 1) := by decide +kernel
theorem dX10_ahead_45 : decode cX10_ahead 45 = .ok (.iload 4, 2) := by decide +kernel
theorem dX10_ahead_47 : decode cX10_ahead 47 = .ok (.invokevirtual 338, 3) := by decide +kernel
theorem dX10_ahead_50 : decode cX10_ahead 50 = .ok (.ifCond .eq 39, 3) := by decide +kernel
theorem dX10_ahead_53 : decode cX10_ahead 53 = .ok (.aload_n 0, 1) := by decide +kernel
theorem dX10_ahead_54 : decode cX10_ahead 54 = .ok (.iload 5, 2) := by decide +kernel
theorem dX10_ahead_56 : decode cX10_ahead 56 = .ok (.invokevirtual 471, 3) := by decide +kernel
theorem dX10_ahead_59 : decode cX10_ahead 59 = .ok (.ifCond .eq 30, 3) := by decide +kernel
theorem dX10_ahead_62 : decode cX10_ahead 62 = .ok (.aload_n 0, 1) := by decide +kernel
theorem dX10_ahead_63 : decode cX10_ahead 63 = .ok (.aload_n 0, 1) := by decide +kernel
theorem dX10_ahead_64 : decode cX10_ahead 64 = .ok (.getfield 69, 3) := by decide +kernel
theorem dX10_ahead_67 : decode cX10_ahead 67 = .ok (.iload 5, 2) := by decide +kernel
theorem dX10_ahead_69 : decode cX10_ahead 69 = .ok (.iaload, 1) := by decide +kernel
theorem dX10_ahead_70 : decode cX10_ahead 70 = .ok (.putfield 424, 3) := by decide +kernel
theorem dX10_ahead_73 : decode cX10_ahead 73 = .ok (.aload_n 0, 1) := by decide +kernel
theorem dX10_ahead_74 : decode cX10_ahead 74 = .ok (.iload_n 1, 1) := by decide +kernel
theorem dX10_ahead_75 : decode cX10_ahead 75 = .ok (.putfield 427, 3) := by decide +kernel
theorem dX10_ahead_78 : decode cX10_ahead 78 = .ok (.aload_n 0, 1) := by decide +kernel
theorem dX10_ahead_79 : decode cX10_ahead 79 = .ok (.iload_n 2, 1) := by decide +kernel
theorem dX10_ahead_80 : decode cX10_ahead 80 = .ok (.putfield 430, 3) := by decide +kernel
theorem dX10_ahead_83 : decode cX10_ahead 83 = .ok (.aload_n 0, 1) := by decide +kernel
theorem dX10_ahead_84 : decode cX10_ahead 84 = .ok (.invokevirtual 464, 3) := by decide +kernel
theorem dX10_ahead_87 : decode cX10_ahead 87 = .ok (.iconst 1, 1) := by decide +kernel
theorem dX10_ahead_88 : decode cX10_ahead 88 = .ok (.ireturn, 1) := by decide +kernel
theorem dX10_ahead_89 : decode cX10_ahead 89 = .ok (.iinc 5 1, 3) := by decide +kernel
theorem dX10_ahead_92 : decode cX10_ahead 92 = .ok (.goto (-82), 3) := by decide +kernel
theorem dX10_ahead_95 : decode cX10_ahead 95 = .ok (.iconst 0, 1) := by decide +kernel
theorem dX10_ahead_96 : decode cX10_ahead 96 = .ok (.istore 5, 2) := by decide +kernel
theorem dX10_ahead_98 : decode cX10_ahead 98 = .ok (.iload 5, 2) := by decide +kernel
theorem dX10_ahead_100 : decode cX10_ahead 100 = .ok (.iload 4, 2) := by decide +kernel
theorem dX10_ahead_102 : decode cX10_ahead 102 = .ok (.if_icmp .ge 75, 3) := by decide +kernel
theorem dX10_ahead_105 : decode cX10_ahead 105 = .ok (.iload_n 3, 1) := by decide +kernel
theorem dX10_ahead_106 : decode cX10_ahead 106 = .ok (.bipush 42, 2) := by decide +kernel
theorem dX10_ahead_108 : decode cX10_ahead 108 = .ok (.if_icmp .ne 28, 3) := by decide +kernel
theorem dX10_ahead_111 : decode cX10_ahead 111 = .ok (.aload_n 0, 1) := by decide +kernel
theorem dX10_ahead_112 : decode cX10_ahead 112 = .ok (.iload 5, 2) := by decide +kernel
theorem dX10_ahead_114 : decode cX10_ahead 114 = .ok (.iconst 3, 1) := by decide +kernel
theorem dX10_ahead_115 : decode cX10_ahead 115 = .ok (.iload_n 1, 1) := by decide +kernel
theorem dX10_ahead_116 : decode cX10_ahead 116 = .ok (.iconst 0, 1) := by decide +kernel
theorem dX10_ahead_117 : decode cX10_ahead 117 = .ok (.iload 4, 2) := by decide +kernel
theorem dX10_ahead_119 : decode cX10_ahead 119 = .ok (.invokevirtual 338, 3) := by decide +kernel
theorem dX10_ahead_122 : decode cX10_ahead 122 = .ok (.ifCond .eq 14, 3) := by decide +kernel
theorem dX10_ahead_125 : decode cX10_ahead 125 = .ok (.aload_n 0, 1) := by decide +kernel
theorem dX10_ahead_126 : decode cX10_ahead 126 = .ok (.iload 5, 2) := by decide +kernel
theorem dX10_ahead_128 : decode cX10_ahead 128 = .ok (.aload_n 0, 1) := by decide +kernel
theorem dX10_ahead_129 : decode cX10_ahead 129 = .ok (.iconst 0, 1) := by decide +kernel
theorem dX10_ahead_130 : decode cX10_ahead 130 = .ok (.invokevirtual 474, 3) := by decide +kernel
theorem dX10_ahead_133 : decode cX10_ahead 133 = .ok (.invokevirtual 442, 3) := by decide +kernel
theorem dX10_ahead_136 : decode cX10_ahead 136 = .ok (.aload_n 0, 1) := by decide +kernel
theorem dX10_ahead_137 : decode cX10_ahead 137 = .ok (.iload 5, 2) := by decide +kernel
theorem dX10_ahead_139 : decode cX10_ahead 139 = .ok (.iconst 4, 1) := by decide +kernel
theorem dX10_ahead_140 : decode cX10_ahead 140 = .ok (.iload_n 1, 1) := by decide +kernel
theorem dX10_ahead_141 : decode cX10_ahead 141 = .ok (.iload_n 2, 1) := by decide +kernel
theorem dX10_ahead_142 : decode cX10_ahead 142 = .ok (.iload 4, 2) := by decide +kernel
theorem dX10_ahead_144 : decode cX10_ahead 144 = .ok (.invokevirtual 338, 3) := by decide +kernel
theorem dX10_ahead_147 : decode cX10_ahead 147 = .ok (.ifCond .eq 24, 3) := by decide +kernel
theorem dX10_ahead_150 : decode cX10_ahead 150 = .ok (.aload_n 0, 1) := by decide +kernel
theorem dX10_ahead_151 : decode cX10_ahead 151 = .ok (.iload 5, 2) := by decide +kernel
theorem dX10_ahead_153 : decode cX10_ahead 153 = .ok (.iload_n 3, 1) := by decide +kernel
theorem dX10_ahead_154 : decode cX10_ahead 154 = .ok (.aload_n 0, 1) := by decide +kernel
theorem dX10_ahead_155 : decode cX10_ahead 155 = .ok (.getfield 26, 3) := by decide +kernel
theorem dX10_ahead_158 : decode cX10_ahead 158 = .ok (.sipush 400, 3) := by decide +kernel
theorem dX10_ahead_161 : decode cX10_ahead 161 = .ok (.iload_n 1, 1) := by decide +kernel
theorem dX10_ahead_162 : decode cX10_ahead 162 = .ok (.imul, 1) := by decide +kernel
theorem dX10_ahead_163 : decode cX10_ahead 163 = .ok (.iload_n 2, 1) := by decide +kernel
theorem dX10_ahead_164 : decode cX10_ahead 164 = .ok (.iadd, 1) := by decide +kernel
theorem dX10_ahead_165 : decode cX10_ahead 165 = .ok (.iconst 1, 1) := by decide +kernel
theorem dX10_ahead_166 : decode cX10_ahead 166 = .ok (.iadd, 1) := by decide +kernel
theorem dX10_ahead_167 : decode cX10_ahead 167 = .ok (.iaload, 1) := by decide +kernel
theorem dX10_ahead_168 : decode cX10_ahead 168 = .ok (.invokevirtual 477, 3) := by decide +kernel
theorem dX10_ahead_171 : decode cX10_ahead 171 = .ok (.iinc 5 1, 3) := by decide +kernel
theorem dX10_ahead_174 : decode cX10_ahead 174 = .ok (.goto (-76), 3) := by decide +kernel
theorem dX10_ahead_177 : decode cX10_ahead 177 = .ok (.iconst 0, 1) := by decide +kernel
theorem dX10_ahead_178 : decode cX10_ahead 178 = .ok (.ireturn, 1) := by decide +kernel
theorem dX10_faults_0 : decode cX10_faults 0 = .ok (.aload_n 0, 1) := by decide +kernel
theorem dX10_faults_1 : decode cX10_faults 1 = .ok (.getfield 159, 3) := by decide +kernel
theorem dX10_faults_4 : decode cX10_faults 4 = .ok (.iload_n 1, 1) := by decide +kernel
theorem dX10_faults_5 : decode cX10_faults 5 = .ok (.dup2, 1) := by decide +kernel
theorem dX10_faults_6 : decode cX10_faults 6 = .ok (.iaload, 1) := by decide +kernel
theorem dX10_faults_7 : decode cX10_faults 7 = .ok (.iconst 1, 1) := by decide +kernel
theorem dX10_faults_8 : decode cX10_faults 8 = .ok (.iadd, 1) := by decide +kernel
theorem dX10_faults_9 : decode cX10_faults 9 = .ok (.iastore, 1) := by decide +kernel
theorem dX10_faults_10 : decode cX10_faults 10 = .ok (.aload_n 0, 1) := by decide +kernel
theorem dX10_faults_11 : decode cX10_faults 11 = .ok (.getfield 159, 3) := by decide +kernel
theorem dX10_faults_14 : decode cX10_faults 14 = .ok (.iload_n 1, 1) := by decide +kernel
theorem dX10_faults_15 : decode cX10_faults 15 = .ok (.iaload, 1) := by decide +kernel
theorem dX10_faults_16 : decode cX10_faults 16 = .ok (.aload_n 0, 1) := by decide +kernel
theorem dX10_faults_17 : decode cX10_faults 17 = .ok (.getfield 66, 3) := by decide +kernel
theorem dX10_faults_20 : decode cX10_faults 20 = .ok (.iload_n 1, 1) := by decide +kernel
theorem dX10_faults_21 : decode cX10_faults 21 = .ok (.iaload, 1) := by decide +kernel
theorem dX10_faults_22 : decode cX10_faults 22 = .ok (.if_icmp .ne 7, 3) := by decide +kernel
theorem dX10_faults_25 : decode cX10_faults 25 = .ok (.iconst 1, 1) := by decide +kernel
theorem dX10_faults_26 : decode cX10_faults 26 = .ok (.goto 4, 3) := by decide +kernel
theorem dX10_faults_29 : decode cX10_faults 29 = .ok (.iconst 0, 1) := by decide +kernel
theorem dX10_faults_30 : decode cX10_faults 30 = .ok (.ireturn, 1) := by decide +kernel
theorem dX10_old_0 : decode cX10_old 0 = .ok (.aload_n 0, 1) := by decide +kernel
theorem dX10_old_1 : decode cX10_old 1 = .ok (.getfield 165, 3) := by decide +kernel
theorem dX10_old_4 : decode cX10_old 4 = .ok (.iload_n 1, 1) := by decide +kernel
theorem dX10_old_5 : decode cX10_old 5 = .ok (.iload_n 2, 1) := by decide +kernel
theorem dX10_old_6 : decode cX10_old 6 = .ok (.bipush 35, 2) := by decide +kernel
theorem dX10_old_8 : decode cX10_old 8 = .ok (.if_icmp .ne 7, 3) := by decide +kernel
theorem dX10_old_11 : decode cX10_old 11 = .ok (.iconst 0, 1) := by decide +kernel
theorem dX10_old_12 : decode cX10_old 12 = .ok (.goto 8, 3) := by decide +kernel
theorem dX10_old_15 : decode cX10_old 15 = .ok (.aload_n 0, 1) := by decide +kernel
theorem dX10_old_16 : decode cX10_old 16 = .ok (.iconst 2, 1) := by decide +kernel
theorem dX10_old_17 : decode cX10_old 17 = .ok (.invokevirtual 474, 3) := by decide +kernel
theorem dX10_old_20 : decode cX10_old 20 = .ok (.iastore, 1) := by decide +kernel
theorem dX10_old_21 : decode cX10_old 21 = .ok (.aload_n 0, 1) := by decide +kernel
theorem dX10_old_22 : decode cX10_old 22 = .ok (.getfield 168, 3) := by decide +kernel
theorem dX10_old_25 : decode cX10_old 25 = .ok (.iload_n 1, 1) := by decide +kernel
theorem dX10_old_26 : decode cX10_old 26 = .ok (.iload_n 2, 1) := by decide +kernel
theorem dX10_old_27 : decode cX10_old 27 = .ok (.bipush 35, 2) := by decide +kernel
theorem dX10_old_29 : decode cX10_old 29 = .ok (.if_icmp .ne 7, 3) := by decide +kernel
theorem dX10_old_32 : decode cX10_old 32 = .ok (.iload_n 3, 1) := by decide +kernel
theorem dX10_old_33 : decode cX10_old 33 = .ok (.goto 8, 3) := by decide +kernel
theorem dX10_old_36 : decode cX10_old 36 = .ok (.aload_n 0, 1) := by decide +kernel
theorem dX10_old_37 : decode cX10_old 37 = .ok (.iconst 1, 1) := by decide +kernel
theorem dX10_old_38 : decode cX10_old 38 = .ok (.invokevirtual 474, 3) := by decide +kernel
theorem dX10_old_41 : decode cX10_old 41 = .ok (.iastore, 1) := by decide +kernel
theorem dX10_old_42 : decode cX10_old 42 = .ok (.iload_n 2, 1) := by decide +kernel
theorem dX10_old_43 : decode cX10_old 43 = .ok (.bipush 35, 2) := by decide +kernel
theorem dX10_old_45 : decode cX10_old 45 = .ok (.if_icmp .eq 29, 3) := by decide +kernel
theorem dX10_old_48 : decode cX10_old 48 = .ok (.aload_n 0, 1) := by decide +kernel
theorem dX10_old_49 : decode cX10_old 49 = .ok (.getfield 168, 3) := by decide +kernel
theorem dX10_old_52 : decode cX10_old 52 = .ok (.iload_n 1, 1) := by decide +kernel
theorem dX10_old_53 : decode cX10_old 53 = .ok (.iaload, 1) := by decide +kernel
theorem dX10_old_54 : decode cX10_old 54 = .ok (.iconst 0, 1) := by decide +kernel
theorem dX10_old_55 : decode cX10_old 55 = .ok (.aload_n 0, 1) := by decide +kernel
theorem dX10_old_56 : decode cX10_old 56 = .ok (.getfield 150, 3) := by decide +kernel
theorem dX10_old_59 : decode cX10_old 59 = .ok (.aload_n 0, 1) := by decide +kernel
theorem dX10_old_60 : decode cX10_old 60 = .ok (.getfield 165, 3) := by decide +kernel
theorem dX10_old_63 : decode cX10_old 63 = .ok (.iload_n 1, 1) := by decide +kernel
theorem dX10_old_64 : decode cX10_old 64 = .ok (.iaload, 1) := by decide +kernel
theorem dX10_old_65 : decode cX10_old 65 = .ok (.iaload, 1) := by decide +kernel
theorem dX10_old_66 : decode cX10_old 66 = .ok (.iconst 1, 1) := by decide +kernel
theorem dX10_old_67 : decode cX10_old 67 = .ok (.isub, 1) := by decide +kernel
theorem dX10_old_68 : decode cX10_old 68 = .ok (.invokestatic 217, 3) := by decide +kernel
theorem dX10_old_71 : decode cX10_old 71 = .ok (.ifCond .eq 7, 3) := by decide +kernel
theorem dX10_old_74 : decode cX10_old 74 = .ok (.iconst 1, 1) := by decide +kernel
theorem dX10_old_75 : decode cX10_old 75 = .ok (.goto 4, 3) := by decide +kernel
theorem dX10_old_78 : decode cX10_old 78 = .ok (.iconst 0, 1) := by decide +kernel
theorem dX10_old_79 : decode cX10_old 79 = .ok (.istore 4, 2) := by decide +kernel
theorem dX10_old_81 : decode cX10_old 81 = .ok (.aload_n 0, 1) := by decide +kernel
theorem dX10_old_82 : decode cX10_old 82 = .ok (.getfield 162, 3) := by decide +kernel
theorem dX10_old_85 : decode cX10_old 85 = .ok (.iload_n 1, 1) := by decide +kernel
theorem dX10_old_86 : decode cX10_old 86 = .ok (.iload 4, 2) := by decide +kernel
theorem dX10_old_88 : decode cX10_old 88 = .ok (.ifCond .eq 11, 3) := by decide +kernel
theorem dX10_old_91 : decode cX10_old 91 = .ok (.aload_n 0, 1) := by decide +kernel
theorem dX10_old_92 : decode cX10_old 92 = .ok (.iload_n 1, 1) := by decide +kernel
theorem dX10_old_93 : decode cX10_old 93 = .ok (.invokevirtual 480, 3) := by decide +kernel
theorem dX10_old_96 : decode cX10_old 96 = .ok (.goto 4, 3) := by decide +kernel
theorem dX10_old_99 : decode cX10_old 99 = .ok (.iconst 0, 1) := by decide +kernel
theorem dX10_old_100 : decode cX10_old 100 = .ok (.iastore, 1) := by decide +kernel
theorem dX10_old_101 : decode cX10_old 101 = .ok (.return_, 1) := by decide +kernel
theorem dX10_stored_0 : decode cX10_stored 0 = .ok (.aload_n 0, 1) := by decide +kernel
theorem dX10_stored_1 : decode cX10_stored 1 = .ok (.getfield 165, 3) := by decide +kernel
theorem dX10_stored_4 : decode cX10_stored 4 = .ok (.iload_n 1, 1) := by decide +kernel
theorem dX10_stored_5 : decode cX10_stored 5 = .ok (.iaload, 1) := by decide +kernel
theorem dX10_stored_6 : decode cX10_stored 6 = .ok (.ifCond .ne 17, 3) := by decide +kernel
theorem dX10_stored_9 : decode cX10_stored 9 = .ok (.aload_n 0, 1) := by decide +kernel
theorem dX10_stored_10 : decode cX10_stored 10 = .ok (.getfield 156, 3) := by decide +kernel
theorem dX10_stored_13 : decode cX10_stored 13 = .ok (.aload_n 0, 1) := by decide +kernel
theorem dX10_stored_14 : decode cX10_stored 14 = .ok (.getfield 168, 3) := by decide +kernel
theorem dX10_stored_17 : decode cX10_stored 17 = .ok (.iload_n 1, 1) := by decide +kernel
theorem dX10_stored_18 : decode cX10_stored 18 = .ok (.iaload, 1) := by decide +kernel
theorem dX10_stored_19 : decode cX10_stored 19 = .ok (.iaload, 1) := by decide +kernel
theorem dX10_stored_20 : decode cX10_stored 20 = .ok (.goto 24, 3) := by decide +kernel
theorem dX10_stored_23 : decode cX10_stored 23 = .ok (.aload_n 0, 1) := by decide +kernel
theorem dX10_stored_24 : decode cX10_stored 24 = .ok (.getfield 153, 3) := by decide +kernel
theorem dX10_stored_27 : decode cX10_stored 27 = .ok (.bipush 50, 2) := by decide +kernel
theorem dX10_stored_29 : decode cX10_stored 29 = .ok (.aload_n 0, 1) := by decide +kernel
theorem dX10_stored_30 : decode cX10_stored 30 = .ok (.getfield 165, 3) := by decide +kernel
theorem dX10_stored_33 : decode cX10_stored 33 = .ok (.iload_n 1, 1) := by decide +kernel
theorem dX10_stored_34 : decode cX10_stored 34 = .ok (.iaload, 1) := by decide +kernel
theorem dX10_stored_35 : decode cX10_stored 35 = .ok (.imul, 1) := by decide +kernel
theorem dX10_stored_36 : decode cX10_stored 36 = .ok (.aload_n 0, 1) := by decide +kernel
theorem dX10_stored_37 : decode cX10_stored 37 = .ok (.getfield 168, 3) := by decide +kernel
theorem dX10_stored_40 : decode cX10_stored 40 = .ok (.iload_n 1, 1) := by decide +kernel
theorem dX10_stored_41 : decode cX10_stored 41 = .ok (.iaload, 1) := by decide +kernel
theorem dX10_stored_42 : decode cX10_stored 42 = .ok (.iadd, 1) := by decide +kernel
theorem dX10_stored_43 : decode cX10_stored 43 = .ok (.iaload, 1) := by decide +kernel
theorem dX10_stored_44 : decode cX10_stored 44 = .ok (.ireturn, 1) := by decide +kernel
theorem dX10_tellStore_0 : decode cX10_tellStore 0 = .ok (.aload_n 0, 1) := by decide +kernel
theorem dX10_tellStore_1 : decode cX10_tellStore 1 = .ok (.iload_n 1, 1) := by decide +kernel
theorem dX10_tellStore_2 : decode cX10_tellStore 2 = .ok (.aload_n 0, 1) := by decide +kernel
theorem dX10_tellStore_3 : decode cX10_tellStore 3 = .ok (.getfield 162, 3) := by decide +kernel
theorem dX10_tellStore_6 : decode cX10_tellStore 6 = .ok (.iload_n 1, 1) := by decide +kernel
theorem dX10_tellStore_7 : decode cX10_tellStore 7 = .ok (.iaload, 1) := by decide +kernel
theorem dX10_tellStore_8 : decode cX10_tellStore 8 = .ok (.invokevirtual 442, 3) := by decide +kernel
theorem dX10_tellStore_11 : decode cX10_tellStore 11 = .ok (.aload_n 0, 1) := by decide +kernel
theorem dX10_tellStore_12 : decode cX10_tellStore 12 = .ok (.iload_n 1, 1) := by decide +kernel
theorem dX10_tellStore_13 : decode cX10_tellStore 13 = .ok (.aload_n 0, 1) := by decide +kernel
theorem dX10_tellStore_14 : decode cX10_tellStore 14 = .ok (.iload_n 1, 1) := by decide +kernel
theorem dX10_tellStore_15 : decode cX10_tellStore 15 = .ok (.invokevirtual 480, 3) := by decide +kernel
theorem dX10_tellStore_18 : decode cX10_tellStore 18 = .ok (.invokevirtual 442, 3) := by decide +kernel
theorem dX10_tellStore_21 : decode cX10_tellStore 21 = .ok (.return_, 1) := by decide +kernel
theorem dX10_replace_0 : decode cX10_replace 0 = .ok (.aload_n 0, 1) := by decide +kernel
theorem dX10_replace_1 : decode cX10_replace 1 = .ok (.iload_n 1, 1) := by decide +kernel
theorem dX10_replace_2 : decode cX10_replace 2 = .ok (.aload_n 0, 1) := by decide +kernel
theorem dX10_replace_3 : decode cX10_replace 3 = .ok (.iconst 0, 1) := by decide +kernel
theorem dX10_replace_4 : decode cX10_replace 4 = .ok (.invokevirtual 474, 3) := by decide +kernel
theorem dX10_replace_7 : decode cX10_replace 7 = .ok (.invokevirtual 442, 3) := by decide +kernel
theorem dX10_replace_10 : decode cX10_replace 10 = .ok (.aload_n 0, 1) := by decide +kernel
theorem dX10_replace_11 : decode cX10_replace 11 = .ok (.aload_n 0, 1) := by decide +kernel
theorem dX10_replace_12 : decode cX10_replace 12 = .ok (.getfield 66, 3) := by decide +kernel
theorem dX10_replace_15 : decode cX10_replace 15 = .ok (.iload_n 1, 1) := by decide +kernel
theorem dX10_replace_16 : decode cX10_replace 16 = .ok (.iaload, 1) := by decide +kernel
theorem dX10_replace_17 : decode cX10_replace 17 = .ok (.invokevirtual 483, 3) := by decide +kernel
theorem dX10_replace_20 : decode cX10_replace 20 = .ok (.return_, 1) := by decide +kernel
theorem dX10_behind_0 : decode cX10_behind 0 = .ok (.aload_n 0, 1) := by decide +kernel
theorem dX10_behind_1 : decode cX10_behind 1 = .ok (.iload_n 1, 1) := by decide +kernel
theorem dX10_behind_2 : decode cX10_behind 2 = .ok (.invokevirtual 436, 3) := by decide +kernel
theorem dX10_behind_5 : decode cX10_behind 5 = .ok (.istore 5, 2) := by decide +kernel
theorem dX10_behind_7 : decode cX10_behind 7 = .ok (.iconst 0, 1) := by decide +kernel
theorem dX10_behind_8 : decode cX10_behind 8 = .ok (.istore 6, 2) := by decide +kernel
theorem dX10_behind_10 : decode cX10_behind 10 = .ok (.iload 6, 2) := by decide +kernel
theorem dX10_behind_12 : decode cX10_behind 12 = .ok (.iload 5, 2) := by decide +kernel
theorem dX10_behind_14 : decode cX10_behind 14 = .ok (.if_icmp .ge 80, 3) := by decide +kernel
theorem dX10_behind_17 : decode cX10_behind 17 = .ok (.aload_n 0, 1) := by decide +kernel
theorem dX10_behind_18 : decode cX10_behind 18 = .ok (.iload 6, 2) := by decide +kernel
theorem dX10_behind_20 : decode cX10_behind 20 = .ok (.iconst 4, 1) := by decide +kernel
theorem dX10_behind_21 : decode cX10_behind 21 = .ok (.iload_n 1, 1) := by decide +kernel
theorem dX10_behind_22 : decode cX10_behind 22 = .ok (.iload_n 2, 1) := by decide +kernel
theorem dX10_behind_23 : decode cX10_behind 23 = .ok (.iload 5, 2) := by decide +kernel
theorem dX10_behind_25 : decode cX10_behind 25 = .ok (.invokevirtual 338, 3) := by decide +kernel
theorem dX10_behind_28 : decode cX10_behind 28 = .ok (.ifCond .eq 9, 3) := by decide +kernel
theorem dX10_behind_31 : decode cX10_behind 31 = .ok (.aload_n 0, 1) := by decide +kernel
theorem dX10_behind_32 : decode cX10_behind 32 = .ok (.iload 6, 2) := by decide +kernel
theorem dX10_behind_34 : decode cX10_behind 34 = .ok (.invokevirtual 486, 3) := by decide +kernel
theorem dX10_behind_37 : decode cX10_behind 37 = .ok (.aload_n 0, 1) := by decide +kernel
theorem dX10_behind_38 : decode cX10_behind 38 = .ok (.iload 6, 2) := by decide +kernel
theorem dX10_behind_40 : decode cX10_behind 40 = .ok (.bipush 7, 2) := by decide +kernel
theorem dX10_behind_42 : decode cX10_behind 42 = .ok (.iload_n 1, 1) := by decide +kernel
theorem dX10_behind_43 : decode cX10_behind 43 = .ok (.iload_n 2, 1) := by decide +kernel
theorem dX10_behind_44 : decode cX10_behind 44 = .ok (.iload 5, 2) := by decide +kernel
theorem dX10_behind_46 : decode cX10_behind 46 = .ok (.invokevirtual 338, 3) := by decide +kernel
theorem dX10_behind_49 : decode cX10_behind 49 = .ok (.ifCond .eq 9, 3) := by decide +kernel
theorem dX10_behind_52 : decode cX10_behind 52 = .ok (.aload_n 0, 1) := by decide +kernel
theorem dX10_behind_53 : decode cX10_behind 53 = .ok (.iload 6, 2) := by decide +kernel
theorem dX10_behind_55 : decode cX10_behind 55 = .ok (.invokevirtual 489, 3) := by decide +kernel
theorem dX10_behind_58 : decode cX10_behind 58 = .ok (.aload_n 0, 1) := by decide +kernel
theorem dX10_behind_59 : decode cX10_behind 59 = .ok (.iload 6, 2) := by decide +kernel
theorem dX10_behind_61 : decode cX10_behind 61 = .ok (.iconst 1, 1) := by decide +kernel
theorem dX10_behind_62 : decode cX10_behind 62 = .ok (.iload_n 1, 1) := by decide +kernel
theorem dX10_behind_63 : decode cX10_behind 63 = .ok (.iload_n 2, 1) := by decide +kernel
theorem dX10_behind_64 : decode cX10_behind 64 = .ok (.iload 5, 2) := by decide +kernel
theorem dX10_behind_66 : decode cX10_behind 66 = .ok (.invokevirtual 338, 3) := by decide +kernel
theorem dX10_behind_69 : decode cX10_behind 69 = .ok (.ifCond .eq 19, 3) := by decide +kernel
theorem dX10_behind_72 : decode cX10_behind 72 = .ok (.aload_n 0, 1) := by decide +kernel
theorem dX10_behind_73 : decode cX10_behind 73 = .ok (.iload 6, 2) := by decide +kernel
theorem dX10_behind_75 : decode cX10_behind 75 = .ok (.iload 4, 2) := by decide +kernel
theorem dX10_behind_77 : decode cX10_behind 77 = .ok (.ifCond .eq 7, 3) := by decide +kernel
theorem dX10_behind_80 : decode cX10_behind 80 = .ok (.iconst 1, 1) := by decide +kernel
theorem dX10_behind_81 : decode cX10_behind 81 = .ok (.goto 4, 3) := by decide +kernel
theorem dX10_behind_84 : decode cX10_behind 84 = .ok (.iconst 0, 1) := by decide +kernel
theorem dX10_behind_85 : decode cX10_behind 85 = .ok (.invokevirtual 442, 3) := by decide +kernel
theorem dX10_behind_88 : decode cX10_behind 88 = .ok (.iinc 6 1, 3) := by decide +kernel
theorem dX10_behind_91 : decode cX10_behind 91 = .ok (.goto (-81), 3) := by decide +kernel
theorem dX10_behind_94 : decode cX10_behind 94 = .ok (.return_, 1) := by decide +kernel
theorem dX10_said_0 : decode cX10_said 0 = .ok (.aload_n 0, 1) := by decide +kernel
theorem dX10_said_1 : decode cX10_said 1 = .ok (.getfield 75, 3) := by decide +kernel
theorem dX10_said_4 : decode cX10_said 4 = .ok (.sipush 1000, 3) := by decide +kernel
theorem dX10_said_7 : decode cX10_said 7 = .ok (.iload_n 1, 1) := by decide +kernel
theorem dX10_said_8 : decode cX10_said 8 = .ok (.imul, 1) := by decide +kernel
theorem dX10_said_9 : decode cX10_said 9 = .ok (.iload_n 2, 1) := by decide +kernel
theorem dX10_said_10 : decode cX10_said 10 = .ok (.iadd, 1) := by decide +kernel
theorem dX10_said_11 : decode cX10_said 11 = .ok (.iload_n 3, 1) := by decide +kernel
theorem dX10_said_12 : decode cX10_said 12 = .ok (.bipush 58, 2) := by decide +kernel
theorem dX10_said_14 : decode cX10_said 14 = .ok (.if_icmp .ne 7, 3) := by decide +kernel
theorem dX10_said_17 : decode cX10_said 17 = .ok (.iconst 0, 1) := by decide +kernel
theorem dX10_said_18 : decode cX10_said 18 = .ok (.goto 4, 3) := by decide +kernel
theorem dX10_said_21 : decode cX10_said 21 = .ok (.iconst 1, 1) := by decide +kernel
theorem dX10_said_22 : decode cX10_said 22 = .ok (.iadd, 1) := by decide +kernel
theorem dX10_said_23 : decode cX10_said 23 = .ok (.iaload, 1) := by decide +kernel
theorem dX10_said_24 : decode cX10_said 24 = .ok (.istore 4, 2) := by decide +kernel
theorem dX10_said_26 : decode cX10_said 26 = .ok (.aload_n 0, 1) := by decide +kernel
theorem dX10_said_27 : decode cX10_said 27 = .ok (.getfield 138, 3) := by decide +kernel
theorem dX10_said_30 : decode cX10_said 30 = .ok (.aload_n 0, 1) := by decide +kernel
theorem dX10_said_31 : decode cX10_said 31 = .ok (.getfield 415, 3) := by decide +kernel
theorem dX10_said_34 : decode cX10_said 34 = .ok (.iconst 1, 1) := by decide +kernel
theorem dX10_said_35 : decode cX10_said 35 = .ok (.isub, 1) := by decide +kernel
theorem dX10_said_36 : decode cX10_said 36 = .ok (.iload_n 2, 1) := by decide +kernel
theorem dX10_said_37 : decode cX10_said 37 = .ok (.iload_n 3, 1) := by decide +kernel
theorem dX10_said_38 : decode cX10_said 38 = .ok (.iconst 0, 1) := by decide +kernel
theorem dX10_said_39 : decode cX10_said 39 = .ok (.invokestatic 222, 3) := by decide +kernel
theorem dX10_said_42 : decode cX10_said 42 = .ok (.iadd, 1) := by decide +kernel
theorem dX10_said_43 : decode cX10_said 43 = .ok (.iastore, 1) := by decide +kernel
theorem dX10_said_44 : decode cX10_said 44 = .ok (.iload_n 3, 1) := by decide +kernel
theorem dX10_said_45 : decode cX10_said 45 = .ok (.tableswitch 167 48 57 #[55, 65, 88, 98, 112, 127, 138, 98, 147, 158], 55) := by decide +kernel
theorem dX10_said_100 : decode cX10_said 100 = .ok (.aload_n 0, 1) := by decide +kernel
theorem dX10_said_101 : decode cX10_said 101 = .ok (.iload 4, 2) := by decide +kernel
theorem dX10_said_103 : decode cX10_said 103 = .ok (.iconst 0, 1) := by decide +kernel
theorem dX10_said_104 : decode cX10_said 104 = .ok (.invokevirtual 442, 3) := by decide +kernel
theorem dX10_said_107 : decode cX10_said 107 = .ok (.goto 117, 3) := by decide +kernel
theorem dX10_said_110 : decode cX10_said 110 = .ok (.aload_n 0, 1) := by decide +kernel
theorem dX10_said_111 : decode cX10_said 111 = .ok (.iload 4, 2) := by decide +kernel
theorem dX10_said_113 : decode cX10_said 113 = .ok (.aload_n 0, 1) := by decide +kernel
theorem dX10_said_114 : decode cX10_said 114 = .ok (.getfield 75, 3) := by decide +kernel
theorem dX10_said_117 : decode cX10_said 117 = .ok (.sipush 1000, 3) := by decide +kernel
theorem dX10_said_120 : decode cX10_said 120 = .ok (.iload_n 1, 1) := by decide +kernel
theorem dX10_said_121 : decode cX10_said 121 = .ok (.imul, 1) := by decide +kernel
theorem dX10_said_122 : decode cX10_said 122 = .ok (.iload_n 2, 1) := by decide +kernel
theorem dX10_said_123 : decode cX10_said 123 = .ok (.iadd, 1) := by decide +kernel
theorem dX10_said_124 : decode cX10_said 124 = .ok (.iconst 2, 1) := by decide +kernel
theorem dX10_said_125 : decode cX10_said 125 = .ok (.iadd, 1) := by decide +kernel
theorem dX10_said_126 : decode cX10_said 126 = .ok (.iaload, 1) := by decide +kernel
theorem dX10_said_127 : decode cX10_said 127 = .ok (.invokevirtual 442, 3) := by decide +kernel
theorem dX10_said_130 : decode cX10_said 130 = .ok (.goto 94, 3) := by decide +kernel
theorem dX10_said_133 : decode cX10_said 133 = .ok (.aload_n 0, 1) := by decide +kernel
theorem dX10_said_134 : decode cX10_said 134 = .ok (.iload 4, 2) := by decide +kernel
theorem dX10_said_136 : decode cX10_said 136 = .ok (.iload_n 1, 1) := by decide +kernel
theorem dX10_said_137 : decode cX10_said 137 = .ok (.invokevirtual 439, 3) := by decide +kernel
theorem dX10_said_140 : decode cX10_said 140 = .ok (.goto 84, 3) := by decide +kernel
theorem dX10_said_143 : decode cX10_said 143 = .ok (.aload_n 0, 1) := by decide +kernel
theorem dX10_said_144 : decode cX10_said 144 = .ok (.iload 4, 2) := by decide +kernel
theorem dX10_said_146 : decode cX10_said 146 = .ok (.aload_n 0, 1) := by decide +kernel
theorem dX10_said_147 : decode cX10_said 147 = .ok (.iconst 0, 1) := by decide +kernel
theorem dX10_said_148 : decode cX10_said 148 = .ok (.invokevirtual 474, 3) := by decide +kernel
theorem dX10_said_151 : decode cX10_said 151 = .ok (.invokevirtual 442, 3) := by decide +kernel
theorem dX10_said_154 : decode cX10_said 154 = .ok (.goto 70, 3) := by decide +kernel
theorem dX10_said_157 : decode cX10_said 157 = .ok (.aload_n 0, 1) := by decide +kernel
theorem dX10_said_158 : decode cX10_said 158 = .ok (.iload 4, 2) := by decide +kernel
theorem dX10_said_160 : decode cX10_said 160 = .ok (.aload_n 0, 1) := by decide +kernel
theorem dX10_said_161 : decode cX10_said 161 = .ok (.iconst 0, 1) := by decide +kernel
theorem dX10_said_162 : decode cX10_said 162 = .ok (.invokevirtual 474, 3) := by decide +kernel
theorem dX10_said_165 : decode cX10_said 165 = .ok (.ineg, 1) := by decide +kernel
theorem dX10_said_166 : decode cX10_said 166 = .ok (.invokevirtual 442, 3) := by decide +kernel
theorem dX10_said_169 : decode cX10_said 169 = .ok (.goto 55, 3) := by decide +kernel
theorem dX10_said_172 : decode cX10_said 172 = .ok (.aload_n 0, 1) := by decide +kernel
theorem dX10_said_173 : decode cX10_said 173 = .ok (.iload_n 1, 1) := by decide +kernel
theorem dX10_said_174 : decode cX10_said 174 = .ok (.iload_n 2, 1) := by decide +kernel
theorem dX10_said_175 : decode cX10_said 175 = .ok (.iload 4, 2) := by decide +kernel
theorem dX10_said_177 : decode cX10_said 177 = .ok (.invokevirtual 492, 3) := by decide +kernel
theorem dX10_said_180 : decode cX10_said 180 = .ok (.goto 44, 3) := by decide +kernel
theorem dX10_said_183 : decode cX10_said 183 = .ok (.aload_n 0, 1) := by decide +kernel
theorem dX10_said_184 : decode cX10_said 184 = .ok (.iload 4, 2) := by decide +kernel
theorem dX10_said_186 : decode cX10_said 186 = .ok (.invokevirtual 486, 3) := by decide +kernel
theorem dX10_said_189 : decode cX10_said 189 = .ok (.goto 35, 3) := by decide +kernel
theorem dX10_said_192 : decode cX10_said 192 = .ok (.aload_n 0, 1) := by decide +kernel
theorem dX10_said_193 : decode cX10_said 193 = .ok (.iload_n 1, 1) := by decide +kernel
theorem dX10_said_194 : decode cX10_said 194 = .ok (.iload_n 2, 1) := by decide +kernel
theorem dX10_said_195 : decode cX10_said 195 = .ok (.iload 4, 2) := by decide +kernel
theorem dX10_said_197 : decode cX10_said 197 = .ok (.invokevirtual 495, 3) := by decide +kernel
theorem dX10_said_200 : decode cX10_said 200 = .ok (.goto 24, 3) := by decide +kernel
theorem dX10_said_203 : decode cX10_said 203 = .ok (.aload_n 0, 1) := by decide +kernel
theorem dX10_said_204 : decode cX10_said 204 = .ok (.iload 4, 2) := by decide +kernel
theorem dX10_said_206 : decode cX10_said 206 = .ok (.invokevirtual 489, 3) := by decide +kernel
theorem dX10_said_209 : decode cX10_said 209 = .ok (.goto 15, 3) := by decide +kernel
theorem dX10_said_212 : decode cX10_said 212 = .ok (.aload_n 0, 1) := by decide +kernel
theorem dX10_said_213 : decode cX10_said 213 = .ok (.aload_n 0, 1) := by decide +kernel
theorem dX10_said_214 : decode cX10_said 214 = .ok (.invokevirtual 498, 3) := by decide +kernel
theorem dX10_said_217 : decode cX10_said 217 = .ok (.putfield 424, 3) := by decide +kernel
theorem dX10_said_220 : decode cX10_said 220 = .ok (.aload_n 0, 1) := by decide +kernel
theorem dX10_said_221 : decode cX10_said 221 = .ok (.invokevirtual 501, 3) := by decide +kernel
theorem dX10_said_224 : decode cX10_said 224 = .ok (.return_, 1) := by decide +kernel
theorem dX10_oldWoven_0 : decode cX10_oldWoven 0 = .ok (.iload_n 2, 1) := by decide +kernel
theorem dX10_oldWoven_1 : decode cX10_oldWoven 1 = .ok (.istore 4, 2) := by decide +kernel
theorem dX10_oldWoven_3 : decode cX10_oldWoven 3 = .ok (.aload_n 0, 1) := by decide +kernel
theorem dX10_oldWoven_4 : decode cX10_oldWoven 4 = .ok (.getfield 81, 3) := by decide +kernel
theorem dX10_oldWoven_7 : decode cX10_oldWoven 7 = .ok (.sipush 1000, 3) := by decide +kernel
theorem dX10_oldWoven_10 : decode cX10_oldWoven 10 = .ok (.iload_n 1, 1) := by decide +kernel
theorem dX10_oldWoven_11 : decode cX10_oldWoven 11 = .ok (.imul, 1) := by decide +kernel
theorem dX10_oldWoven_12 : decode cX10_oldWoven 12 = .ok (.iload 4, 2) := by decide +kernel
theorem dX10_oldWoven_14 : decode cX10_oldWoven 14 = .ok (.iadd, 1) := by decide +kernel
theorem dX10_oldWoven_15 : decode cX10_oldWoven 15 = .ok (.iaload, 1) := by decide +kernel
theorem dX10_oldWoven_16 : decode cX10_oldWoven 16 = .ok (.iconst (-1), 1) := by decide +kernel
theorem dX10_oldWoven_17 : decode cX10_oldWoven 17 = .ok (.if_icmp .ne 28, 3) := by decide +kernel
theorem dX10_oldWoven_20 : decode cX10_oldWoven 20 = .ok (.iload 4, 2) := by decide +kernel
theorem dX10_oldWoven_22 : decode cX10_oldWoven 22 = .ok (.aload_n 0, 1) := by decide +kernel
theorem dX10_oldWoven_23 : decode cX10_oldWoven 23 = .ok (.getfield 75, 3) := by decide +kernel
theorem dX10_oldWoven_26 : decode cX10_oldWoven 26 = .ok (.sipush 1000, 3) := by decide +kernel
theorem dX10_oldWoven_29 : decode cX10_oldWoven 29 = .ok (.iload_n 1, 1) := by decide +kernel
theorem dX10_oldWoven_30 : decode cX10_oldWoven 30 = .ok (.imul, 1) := by decide +kernel
theorem dX10_oldWoven_31 : decode cX10_oldWoven 31 = .ok (.iload 4, 2) := by decide +kernel
theorem dX10_oldWoven_33 : decode cX10_oldWoven 33 = .ok (.iadd, 1) := by decide +kernel
theorem dX10_oldWoven_34 : decode cX10_oldWoven 34 = .ok (.iaload, 1) := by decide +kernel
theorem dX10_oldWoven_35 : decode cX10_oldWoven 35 = .ok (.iconst 0, 1) := by decide +kernel
theorem dX10_oldWoven_36 : decode cX10_oldWoven 36 = .ok (.invokestatic 222, 3) := by decide +kernel
theorem dX10_oldWoven_39 : decode cX10_oldWoven 39 = .ok (.iadd, 1) := by decide +kernel
theorem dX10_oldWoven_40 : decode cX10_oldWoven 40 = .ok (.istore 4, 2) := by decide +kernel
theorem dX10_oldWoven_42 : decode cX10_oldWoven 42 = .ok (.goto (-39), 3) := by decide +kernel
theorem dX10_oldWoven_45 : decode cX10_oldWoven 45 = .ok (.aload_n 0, 1) := by decide +kernel
theorem dX10_oldWoven_46 : decode cX10_oldWoven 46 = .ok (.iload_n 3, 1) := by decide +kernel
theorem dX10_oldWoven_47 : decode cX10_oldWoven 47 = .ok (.aload_n 0, 1) := by decide +kernel
theorem dX10_oldWoven_48 : decode cX10_oldWoven 48 = .ok (.getfield 75, 3) := by decide +kernel
theorem dX10_oldWoven_51 : decode cX10_oldWoven 51 = .ok (.sipush 1000, 3) := by decide +kernel
theorem dX10_oldWoven_54 : decode cX10_oldWoven 54 = .ok (.iload_n 1, 1) := by decide +kernel
theorem dX10_oldWoven_55 : decode cX10_oldWoven 55 = .ok (.imul, 1) := by decide +kernel
theorem dX10_oldWoven_56 : decode cX10_oldWoven 56 = .ok (.iload 4, 2) := by decide +kernel
theorem dX10_oldWoven_58 : decode cX10_oldWoven 58 = .ok (.iadd, 1) := by decide +kernel
theorem dX10_oldWoven_59 : decode cX10_oldWoven 59 = .ok (.iaload, 1) := by decide +kernel
theorem dX10_oldWoven_60 : decode cX10_oldWoven 60 = .ok (.aload_n 0, 1) := by decide +kernel
theorem dX10_oldWoven_61 : decode cX10_oldWoven 61 = .ok (.getfield 75, 3) := by decide +kernel
theorem dX10_oldWoven_64 : decode cX10_oldWoven 64 = .ok (.sipush 1000, 3) := by decide +kernel
theorem dX10_oldWoven_67 : decode cX10_oldWoven 67 = .ok (.iload_n 1, 1) := by decide +kernel
theorem dX10_oldWoven_68 : decode cX10_oldWoven 68 = .ok (.imul, 1) := by decide +kernel
theorem dX10_oldWoven_69 : decode cX10_oldWoven 69 = .ok (.iload 4, 2) := by decide +kernel
theorem dX10_oldWoven_71 : decode cX10_oldWoven 71 = .ok (.iadd, 1) := by decide +kernel
theorem dX10_oldWoven_72 : decode cX10_oldWoven 72 = .ok (.aload_n 0, 1) := by decide +kernel
theorem dX10_oldWoven_73 : decode cX10_oldWoven 73 = .ok (.getfield 75, 3) := by decide +kernel
theorem dX10_oldWoven_76 : decode cX10_oldWoven 76 = .ok (.sipush 1000, 3) := by decide +kernel
theorem dX10_oldWoven_79 : decode cX10_oldWoven 79 = .ok (.iload_n 1, 1) := by decide +kernel
theorem dX10_oldWoven_80 : decode cX10_oldWoven 80 = .ok (.imul, 1) := by decide +kernel
theorem dX10_oldWoven_81 : decode cX10_oldWoven 81 = .ok (.iload 4, 2) := by decide +kernel
theorem dX10_oldWoven_83 : decode cX10_oldWoven 83 = .ok (.iadd, 1) := by decide +kernel
theorem dX10_oldWoven_84 : decode cX10_oldWoven 84 = .ok (.iaload, 1) := by decide +kernel
theorem dX10_oldWoven_85 : decode cX10_oldWoven 85 = .ok (.bipush 35, 2) := by decide +kernel
theorem dX10_oldWoven_87 : decode cX10_oldWoven 87 = .ok (.if_icmp .ne 7, 3) := by decide +kernel
theorem dX10_oldWoven_90 : decode cX10_oldWoven 90 = .ok (.iconst 1, 1) := by decide +kernel
theorem dX10_oldWoven_91 : decode cX10_oldWoven 91 = .ok (.goto 4, 3) := by decide +kernel
theorem dX10_oldWoven_94 : decode cX10_oldWoven 94 = .ok (.iconst 0, 1) := by decide +kernel
theorem dX10_oldWoven_95 : decode cX10_oldWoven 95 = .ok (.iadd, 1) := by decide +kernel
theorem dX10_oldWoven_96 : decode cX10_oldWoven 96 = .ok (.iaload, 1) := by decide +kernel
theorem dX10_oldWoven_97 : decode cX10_oldWoven 97 = .ok (.invokevirtual 477, 3) := by decide +kernel
theorem dX10_oldWoven_100 : decode cX10_oldWoven 100 = .ok (.return_, 1) := by decide +kernel
theorem dX10_faultWoven_0 : decode cX10_faultWoven 0 = .ok (.aload_n 0, 1) := by decide +kernel
theorem dX10_faultWoven_1 : decode cX10_faultWoven 1 = .ok (.iload_n 3, 1) := by decide +kernel
theorem dX10_faultWoven_2 : decode cX10_faultWoven 2 = .ok (.invokevirtual 471, 3) := by decide +kernel
theorem dX10_faultWoven_5 : decode cX10_faultWoven 5 = .ok (.ifCond .ne 4, 3) := by decide +kernel
theorem dX10_faultWoven_8 : decode cX10_faultWoven 8 = .ok (.return_, 1) := by decide +kernel
theorem dX10_faultWoven_9 : decode cX10_faultWoven 9 = .ok (.iload_n 2, 1) := by decide +kernel
theorem dX10_faultWoven_10 : decode cX10_faultWoven 10 = .ok (.istore 4, 2) := by decide +kernel
theorem dX10_faultWoven_12 : decode cX10_faultWoven 12 = .ok (.aload_n 0, 1) := by decide +kernel
theorem dX10_faultWoven_13 : decode cX10_faultWoven 13 = .ok (.getfield 81, 3) := by decide +kernel
theorem dX10_faultWoven_16 : decode cX10_faultWoven 16 = .ok (.sipush 1000, 3) := by decide +kernel
theorem dX10_faultWoven_19 : decode cX10_faultWoven 19 = .ok (.iload_n 1, 1) := by decide +kernel
theorem dX10_faultWoven_20 : decode cX10_faultWoven 20 = .ok (.imul, 1) := by decide +kernel
theorem dX10_faultWoven_21 : decode cX10_faultWoven 21 = .ok (.iload 4, 2) := by decide +kernel
theorem dX10_faultWoven_23 : decode cX10_faultWoven 23 = .ok (.iadd, 1) := by decide +kernel
theorem dX10_faultWoven_24 : decode cX10_faultWoven 24 = .ok (.iaload, 1) := by decide +kernel
theorem dX10_faultWoven_25 : decode cX10_faultWoven 25 = .ok (.iconst (-1), 1) := by decide +kernel
theorem dX10_faultWoven_26 : decode cX10_faultWoven 26 = .ok (.if_icmp .ne 28, 3) := by decide +kernel
theorem dX10_faultWoven_29 : decode cX10_faultWoven 29 = .ok (.iload 4, 2) := by decide +kernel
theorem dX10_faultWoven_31 : decode cX10_faultWoven 31 = .ok (.aload_n 0, 1) := by decide +kernel
theorem dX10_faultWoven_32 : decode cX10_faultWoven 32 = .ok (.getfield 75, 3) := by decide +kernel
theorem dX10_faultWoven_35 : decode cX10_faultWoven 35 = .ok (.sipush 1000, 3) := by decide +kernel
theorem dX10_faultWoven_38 : decode cX10_faultWoven 38 = .ok (.iload_n 1, 1) := by decide +kernel
theorem dX10_faultWoven_39 : decode cX10_faultWoven 39 = .ok (.imul, 1) := by decide +kernel
theorem dX10_faultWoven_40 : decode cX10_faultWoven 40 = .ok (.iload 4, 2) := by decide +kernel
theorem dX10_faultWoven_42 : decode cX10_faultWoven 42 = .ok (.iadd, 1) := by decide +kernel
theorem dX10_faultWoven_43 : decode cX10_faultWoven 43 = .ok (.iaload, 1) := by decide +kernel
theorem dX10_faultWoven_44 : decode cX10_faultWoven 44 = .ok (.iconst 0, 1) := by decide +kernel
theorem dX10_faultWoven_45 : decode cX10_faultWoven 45 = .ok (.invokestatic 222, 3) := by decide +kernel
theorem dX10_faultWoven_48 : decode cX10_faultWoven 48 = .ok (.iadd, 1) := by decide +kernel
theorem dX10_faultWoven_49 : decode cX10_faultWoven 49 = .ok (.istore 4, 2) := by decide +kernel
theorem dX10_faultWoven_51 : decode cX10_faultWoven 51 = .ok (.goto (-39), 3) := by decide +kernel
theorem dX10_faultWoven_54 : decode cX10_faultWoven 54 = .ok (.aload_n 0, 1) := by decide +kernel
theorem dX10_faultWoven_55 : decode cX10_faultWoven 55 = .ok (.getfield 138, 3) := by decide +kernel
theorem dX10_faultWoven_58 : decode cX10_faultWoven 58 = .ok (.aload_n 0, 1) := by decide +kernel
theorem dX10_faultWoven_59 : decode cX10_faultWoven 59 = .ok (.getfield 415, 3) := by decide +kernel
theorem dX10_faultWoven_62 : decode cX10_faultWoven 62 = .ok (.iconst 1, 1) := by decide +kernel
theorem dX10_faultWoven_63 : decode cX10_faultWoven 63 = .ok (.isub, 1) := by decide +kernel
theorem dX10_faultWoven_64 : decode cX10_faultWoven 64 = .ok (.iload_n 2, 1) := by decide +kernel
theorem dX10_faultWoven_65 : decode cX10_faultWoven 65 = .ok (.iastore, 1) := by decide +kernel
theorem dX10_faultWoven_66 : decode cX10_faultWoven 66 = .ok (.aload_n 0, 1) := by decide +kernel
theorem dX10_faultWoven_67 : decode cX10_faultWoven 67 = .ok (.aload_n 0, 1) := by decide +kernel
theorem dX10_faultWoven_68 : decode cX10_faultWoven 68 = .ok (.getfield 69, 3) := by decide +kernel
theorem dX10_faultWoven_71 : decode cX10_faultWoven 71 = .ok (.iload_n 3, 1) := by decide +kernel
theorem dX10_faultWoven_72 : decode cX10_faultWoven 72 = .ok (.iaload, 1) := by decide +kernel
theorem dX10_faultWoven_73 : decode cX10_faultWoven 73 = .ok (.putfield 424, 3) := by decide +kernel
theorem dX10_faultWoven_76 : decode cX10_faultWoven 76 = .ok (.aload_n 0, 1) := by decide +kernel
theorem dX10_faultWoven_77 : decode cX10_faultWoven 77 = .ok (.iload_n 1, 1) := by decide +kernel
theorem dX10_faultWoven_78 : decode cX10_faultWoven 78 = .ok (.putfield 427, 3) := by decide +kernel
theorem dX10_faultWoven_81 : decode cX10_faultWoven 81 = .ok (.aload_n 0, 1) := by decide +kernel
theorem dX10_faultWoven_82 : decode cX10_faultWoven 82 = .ok (.aload_n 0, 1) := by decide +kernel
theorem dX10_faultWoven_83 : decode cX10_faultWoven 83 = .ok (.getfield 81, 3) := by decide +kernel
theorem dX10_faultWoven_86 : decode cX10_faultWoven 86 = .ok (.sipush 1000, 3) := by decide +kernel
theorem dX10_faultWoven_89 : decode cX10_faultWoven 89 = .ok (.iload_n 1, 1) := by decide +kernel
theorem dX10_faultWoven_90 : decode cX10_faultWoven 90 = .ok (.imul, 1) := by decide +kernel
theorem dX10_faultWoven_91 : decode cX10_faultWoven 91 = .ok (.iload 4, 2) := by decide +kernel
theorem dX10_faultWoven_93 : decode cX10_faultWoven 93 = .ok (.iadd, 1) := by decide +kernel
theorem dX10_faultWoven_94 : decode cX10_faultWoven 94 = .ok (.iaload, 1) := by decide +kernel
theorem dX10_faultWoven_95 : decode cX10_faultWoven 95 = .ok (.putfield 430, 3) := by decide +kernel
theorem dX10_faultWoven_98 : decode cX10_faultWoven 98 = .ok (.aload_n 0, 1) := by decide +kernel
theorem dX10_faultWoven_99 : decode cX10_faultWoven 99 = .ok (.invokevirtual 464, 3) := by decide +kernel
theorem dX10_faultWoven_102 : decode cX10_faultWoven 102 = .ok (.return_, 1) := by decide +kernel
theorem dX10_isThrown_0 : decode cX10_isThrown 0 = .ok (.iconst 1, 1) := by decide +kernel
theorem dX10_isThrown_1 : decode cX10_isThrown 1 = .ok (.istore_n 1, 1) := by decide +kernel
theorem dX10_isThrown_2 : decode cX10_isThrown 2 = .ok (.iload_n 1, 1) := by decide +kernel
theorem dX10_isThrown_3 : decode cX10_isThrown 3 = .ok (.ifCond .eq 121, 3) := by decide +kernel
theorem dX10_isThrown_6 : decode cX10_isThrown 6 = .ok (.aload_n 0, 1) := by decide +kernel
theorem dX10_isThrown_7 : decode cX10_isThrown 7 = .ok (.getfield 135, 3) := by decide +kernel
theorem dX10_isThrown_10 : decode cX10_isThrown 10 = .ok (.aload_n 0, 1) := by decide +kernel
theorem dX10_isThrown_11 : decode cX10_isThrown 11 = .ok (.getfield 415, 3) := by decide +kernel
theorem dX10_isThrown_14 : decode cX10_isThrown 14 = .ok (.iconst 1, 1) := by decide +kernel
theorem dX10_isThrown_15 : decode cX10_isThrown 15 = .ok (.isub, 1) := by decide +kernel
theorem dX10_isThrown_16 : decode cX10_isThrown 16 = .ok (.iaload, 1) := by decide +kernel
theorem dX10_isThrown_17 : decode cX10_isThrown 17 = .ok (.istore_n 2, 1) := by decide +kernel
theorem dX10_isThrown_18 : decode cX10_isThrown 18 = .ok (.aload_n 0, 1) := by decide +kernel
theorem dX10_isThrown_19 : decode cX10_isThrown 19 = .ok (.getfield 138, 3) := by decide +kernel
theorem dX10_isThrown_22 : decode cX10_isThrown 22 = .ok (.aload_n 0, 1) := by decide +kernel
theorem dX10_isThrown_23 : decode cX10_isThrown 23 = .ok (.getfield 415, 3) := by decide +kernel
theorem dX10_isThrown_26 : decode cX10_isThrown 26 = .ok (.iconst 1, 1) := by decide +kernel
theorem dX10_isThrown_27 : decode cX10_isThrown 27 = .ok (.isub, 1) := by decide +kernel
theorem dX10_isThrown_28 : decode cX10_isThrown 28 = .ok (.iaload, 1) := by decide +kernel
theorem dX10_isThrown_29 : decode cX10_isThrown 29 = .ok (.istore_n 3, 1) := by decide +kernel
theorem dX10_isThrown_30 : decode cX10_isThrown 30 = .ok (.aload_n 0, 1) := by decide +kernel
theorem dX10_isThrown_31 : decode cX10_isThrown 31 = .ok (.iload_n 2, 1) := by decide +kernel
theorem dX10_isThrown_32 : decode cX10_isThrown 32 = .ok (.iload_n 3, 1) := by decide +kernel
