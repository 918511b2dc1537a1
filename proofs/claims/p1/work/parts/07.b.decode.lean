theorem dX2_keepOld_17 : decode cX2_keepOld 17 = .ok (.bipush 35, 2) := by decide +kernel
theorem dX2_keepOld_19 : decode cX2_keepOld 19 = .ok (.if_icmp .ne 19, 3) := by decide +kernel
theorem dX2_keepOld_22 : decode cX2_keepOld 22 = .ok (.aload_n 2, 1) := by decide +kernel
theorem dX2_keepOld_23 : decode cX2_keepOld 23 = .ok (.aload_n 0, 1) := by decide +kernel
theorem dX2_keepOld_24 : decode cX2_keepOld 24 = .ok (.getfield 56, 3) := by decide +kernel
theorem dX2_keepOld_27 : decode cX2_keepOld 27 = .ok (.iconst 1, 1) := by decide +kernel
theorem dX2_keepOld_28 : decode cX2_keepOld 28 = .ok (.iadd, 1) := by decide +kernel
theorem dX2_keepOld_29 : decode cX2_keepOld 29 = .ok (.invokestatic 153, 3) := by decide +kernel
theorem dX2_keepOld_32 : decode cX2_keepOld 32 = .ok (.invokestatic 253, 3) := by decide +kernel
theorem dX2_keepOld_35 : decode cX2_keepOld 35 = .ok (.goto 17, 3) := by decide +kernel
theorem dX2_keepOld_38 : decode cX2_keepOld 38 = .ok (.aload_n 0, 1) := by decide +kernel
theorem dX2_keepOld_39 : decode cX2_keepOld 39 = .ok (.aload_n 1, 1) := by decide +kernel
theorem dX2_keepOld_40 : decode cX2_keepOld 40 = .ok (.iconst 2, 1) := by decide +kernel
theorem dX2_keepOld_41 : decode cX2_keepOld 41 = .ok (.invokevirtual 243, 3) := by decide +kernel
theorem dX2_keepOld_44 : decode cX2_keepOld 44 = .ok (.aload_n 1, 1) := by decide +kernel
theorem dX2_keepOld_45 : decode cX2_keepOld 45 = .ok (.iconst 1, 1) := by decide +kernel
theorem dX2_keepOld_46 : decode cX2_keepOld 46 = .ok (.invokevirtual 243, 3) := by decide +kernel
theorem dX2_keepOld_49 : decode cX2_keepOld 49 = .ok (.invokevirtual 280, 3) := by decide +kernel
theorem dX2_keepOld_52 : decode cX2_keepOld 52 = .ok (.putfield 46, 3) := by decide +kernel
theorem dX2_keepOld_55 : decode cX2_keepOld 55 = .ok (.aload_n 0, 1) := by decide +kernel
theorem dX2_keepOld_56 : decode cX2_keepOld 56 = .ok (.aload_n 0, 1) := by decide +kernel
theorem dX2_keepOld_57 : decode cX2_keepOld 57 = .ok (.aload_n 0, 1) := by decide +kernel
theorem dX2_keepOld_58 : decode cX2_keepOld 58 = .ok (.getfield 46, 3) := by decide +kernel
theorem dX2_keepOld_61 : decode cX2_keepOld 61 = .ok (.invokevirtual 256, 3) := by decide +kernel
theorem dX2_keepOld_64 : decode cX2_keepOld 64 = .ok (.putfield 49, 3) := by decide +kernel
theorem dX2_keepOld_67 : decode cX2_keepOld 67 = .ok (.return_, 1) := by decide +kernel
theorem dX2_noteStore_0 : decode cX2_noteStore 0 = .ok (.aload_n 0, 1) := by decide +kernel
theorem dX2_noteStore_1 : decode cX2_noteStore 1 = .ok (.getfield 67, 3) := by decide +kernel
theorem dX2_noteStore_4 : decode cX2_noteStore 4 = .ok (.iload_n 1, 1) := by decide +kernel
theorem dX2_noteStore_5 : decode cX2_noteStore 5 = .ok (.aload_n 0, 1) := by decide +kernel
theorem dX2_noteStore_6 : decode cX2_noteStore 6 = .ok (.getfield 49, 3) := by decide +kernel
theorem dX2_noteStore_9 : decode cX2_noteStore 9 = .ok (.invokevirtual 324, 3) := by decide +kernel
theorem dX2_noteStore_12 : decode cX2_noteStore 12 = .ok (.aload_n 0, 1) := by decide +kernel
theorem dX2_noteStore_13 : decode cX2_noteStore 13 = .ok (.getfield 67, 3) := by decide +kernel
theorem dX2_noteStore_16 : decode cX2_noteStore 16 = .ok (.iload_n 1, 1) := by decide +kernel
theorem dX2_noteStore_17 : decode cX2_noteStore 17 = .ok (.aload_n 0, 1) := by decide +kernel
theorem dX2_noteStore_18 : decode cX2_noteStore 18 = .ok (.aload_n 0, 1) := by decide +kernel
theorem dX2_noteStore_19 : decode cX2_noteStore 19 = .ok (.getfield 46, 3) := by decide +kernel
theorem dX2_noteStore_22 : decode cX2_noteStore 22 = .ok (.invokevirtual 256, 3) := by decide +kernel
theorem dX2_noteStore_25 : decode cX2_noteStore 25 = .ok (.invokevirtual 324, 3) := by decide +kernel
theorem dX2_noteStore_28 : decode cX2_noteStore 28 = .ok (.return_, 1) := by decide +kernel
theorem dX2_replaceTop_0 : decode cX2_replaceTop 0 = .ok (.aload_n 0, 1) := by decide +kernel
theorem dX2_replaceTop_1 : decode cX2_replaceTop 1 = .ok (.getfield 67, 3) := by decide +kernel
theorem dX2_replaceTop_4 : decode cX2_replaceTop 4 = .ok (.iload_n 2, 1) := by decide +kernel
theorem dX2_replaceTop_5 : decode cX2_replaceTop 5 = .ok (.aload_n 1, 1) := by decide +kernel
theorem dX2_replaceTop_6 : decode cX2_replaceTop 6 = .ok (.invokevirtual 215, 3) := by decide +kernel
theorem dX2_replaceTop_9 : decode cX2_replaceTop 9 = .ok (.invokevirtual 324, 3) := by decide +kernel
theorem dX2_replaceTop_12 : decode cX2_replaceTop 12 = .ok (.aload_n 1, 1) := by decide +kernel
theorem dX2_replaceTop_13 : decode cX2_replaceTop 13 = .ok (.aload_n 0, 1) := by decide +kernel
theorem dX2_replaceTop_14 : decode cX2_replaceTop 14 = .ok (.getfield 63, 3) := by decide +kernel
theorem dX2_replaceTop_17 : decode cX2_replaceTop 17 = .ok (.iload_n 2, 1) := by decide +kernel
theorem dX2_replaceTop_18 : decode cX2_replaceTop 18 = .ok (.invokevirtual 345, 3) := by decide +kernel
theorem dX2_replaceTop_21 : decode cX2_replaceTop 21 = .ok (.invokevirtual 233, 3) := by decide +kernel
theorem dX2_replaceTop_24 : decode cX2_replaceTop 24 = .ok (.return_, 1) := by decide +kernel
theorem dX2_doWovenOp_0 : decode cX2_doWovenOp 0 = .ok (.aload_n 1, 1) := by decide +kernel
theorem dX2_doWovenOp_1 : decode cX2_doWovenOp 1 = .ok (.invokevirtual 227, 3) := by decide +kernel
theorem dX2_doWovenOp_4 : decode cX2_doWovenOp 4 = .ok (.istore_n 3, 1) := by decide +kernel
theorem dX2_doWovenOp_5 : decode cX2_doWovenOp 5 = .ok (.iload_n 2, 1) := by decide +kernel
theorem dX2_doWovenOp_6 : decode cX2_doWovenOp 6 = .ok (.tableswitch 166 48 57 #[54, 66, 90, 99, 115, 132, 140, 99, 148, 157], 54) := by decide +kernel
theorem dX2_doWovenOp_60 : decode cX2_doWovenOp 60 = .ok (.aload_n 0, 1) := by decide +kernel
theorem dX2_doWovenOp_61 : decode cX2_doWovenOp 61 = .ok (.getfield 67, 3) := by decide +kernel
theorem dX2_doWovenOp_64 : decode cX2_doWovenOp 64 = .ok (.iload_n 3, 1) := by decide +kernel
theorem dX2_doWovenOp_65 : decode cX2_doWovenOp 65 = .ok (.iconst 0, 1) := by decide +kernel
theorem dX2_doWovenOp_66 : decode cX2_doWovenOp 66 = .ok (.invokevirtual 324, 3) := by decide +kernel
theorem dX2_doWovenOp_69 : decode cX2_doWovenOp 69 = .ok (.goto 121, 3) := by decide +kernel
theorem dX2_doWovenOp_72 : decode cX2_doWovenOp 72 = .ok (.aload_n 0, 1) := by decide +kernel
theorem dX2_doWovenOp_73 : decode cX2_doWovenOp 73 = .ok (.getfield 67, 3) := by decide +kernel
theorem dX2_doWovenOp_76 : decode cX2_doWovenOp 76 = .ok (.iload_n 3, 1) := by decide +kernel
theorem dX2_doWovenOp_77 : decode cX2_doWovenOp 77 = .ok (.aload_n 1, 1) := by decide +kernel
theorem dX2_doWovenOp_78 : decode cX2_doWovenOp 78 = .ok (.invokevirtual 146, 3) := by decide +kernel
theorem dX2_doWovenOp_81 : decode cX2_doWovenOp 81 = .ok (.aload_n 1, 1) := by decide +kernel
theorem dX2_doWovenOp_82 : decode cX2_doWovenOp 82 = .ok (.getfield 150, 3) := by decide +kernel
theorem dX2_doWovenOp_85 : decode cX2_doWovenOp 85 = .ok (.iconst 2, 1) := by decide +kernel
theorem dX2_doWovenOp_86 : decode cX2_doWovenOp 86 = .ok (.iadd, 1) := by decide +kernel
theorem dX2_doWovenOp_87 : decode cX2_doWovenOp 87 = .ok (.invokestatic 153, 3) := by decide +kernel
theorem dX2_doWovenOp_90 : decode cX2_doWovenOp 90 = .ok (.invokevirtual 324, 3) := by decide +kernel
theorem dX2_doWovenOp_93 : decode cX2_doWovenOp 93 = .ok (.goto 97, 3) := by decide +kernel
theorem dX2_doWovenOp_96 : decode cX2_doWovenOp 96 = .ok (.aload_n 0, 1) := by decide +kernel
theorem dX2_doWovenOp_97 : decode cX2_doWovenOp 97 = .ok (.aload_n 1, 1) := by decide +kernel
theorem dX2_doWovenOp_98 : decode cX2_doWovenOp 98 = .ok (.iload_n 3, 1) := by decide +kernel
theorem dX2_doWovenOp_99 : decode cX2_doWovenOp 99 = .ok (.invokevirtual 327, 3) := by decide +kernel
theorem dX2_doWovenOp_102 : decode cX2_doWovenOp 102 = .ok (.goto 88, 3) := by decide +kernel
theorem dX2_doWovenOp_105 : decode cX2_doWovenOp 105 = .ok (.aload_n 0, 1) := by decide +kernel
theorem dX2_doWovenOp_106 : decode cX2_doWovenOp 106 = .ok (.getfield 67, 3) := by decide +kernel
theorem dX2_doWovenOp_109 : decode cX2_doWovenOp 109 = .ok (.iload_n 3, 1) := by decide +kernel
theorem dX2_doWovenOp_110 : decode cX2_doWovenOp 110 = .ok (.aload_n 1, 1) := by decide +kernel
theorem dX2_doWovenOp_111 : decode cX2_doWovenOp 111 = .ok (.iconst 0, 1) := by decide +kernel
theorem dX2_doWovenOp_112 : decode cX2_doWovenOp 112 = .ok (.invokevirtual 243, 3) := by decide +kernel
theorem dX2_doWovenOp_115 : decode cX2_doWovenOp 115 = .ok (.invokevirtual 324, 3) := by decide +kernel
theorem dX2_doWovenOp_118 : decode cX2_doWovenOp 118 = .ok (.goto 72, 3) := by decide +kernel
theorem dX2_doWovenOp_121 : decode cX2_doWovenOp 121 = .ok (.aload_n 0, 1) := by decide +kernel
theorem dX2_doWovenOp_122 : decode cX2_doWovenOp 122 = .ok (.getfield 67, 3) := by decide +kernel
theorem dX2_doWovenOp_125 : decode cX2_doWovenOp 125 = .ok (.iload_n 3, 1) := by decide +kernel
theorem dX2_doWovenOp_126 : decode cX2_doWovenOp 126 = .ok (.aload_n 1, 1) := by decide +kernel
theorem dX2_doWovenOp_127 : decode cX2_doWovenOp 127 = .ok (.iconst 0, 1) := by decide +kernel
theorem dX2_doWovenOp_128 : decode cX2_doWovenOp 128 = .ok (.invokevirtual 243, 3) := by decide +kernel
theorem dX2_doWovenOp_131 : decode cX2_doWovenOp 131 = .ok (.ineg, 1) := by decide +kernel
theorem dX2_doWovenOp_132 : decode cX2_doWovenOp 132 = .ok (.invokevirtual 324, 3) := by decide +kernel
theorem dX2_doWovenOp_135 : decode cX2_doWovenOp 135 = .ok (.goto 55, 3) := by decide +kernel
theorem dX2_doWovenOp_138 : decode cX2_doWovenOp 138 = .ok (.aload_n 0, 1) := by decide +kernel
theorem dX2_doWovenOp_139 : decode cX2_doWovenOp 139 = .ok (.aload_n 1, 1) := by decide +kernel
theorem dX2_doWovenOp_140 : decode cX2_doWovenOp 140 = .ok (.invokevirtual 336, 3) := by decide +kernel
theorem dX2_doWovenOp_143 : decode cX2_doWovenOp 143 = .ok (.goto 47, 3) := by decide +kernel
theorem dX2_doWovenOp_146 : decode cX2_doWovenOp 146 = .ok (.aload_n 0, 1) := by decide +kernel
theorem dX2_doWovenOp_147 : decode cX2_doWovenOp 147 = .ok (.iload_n 3, 1) := by decide +kernel
theorem dX2_doWovenOp_148 : decode cX2_doWovenOp 148 = .ok (.invokevirtual 339, 3) := by decide +kernel
theorem dX2_doWovenOp_151 : decode cX2_doWovenOp 151 = .ok (.goto 39, 3) := by decide +kernel
theorem dX2_doWovenOp_154 : decode cX2_doWovenOp 154 = .ok (.aload_n 0, 1) := by decide +kernel
theorem dX2_doWovenOp_155 : decode cX2_doWovenOp 155 = .ok (.aload_n 1, 1) := by decide +kernel
theorem dX2_doWovenOp_156 : decode cX2_doWovenOp 156 = .ok (.iload_n 3, 1) := by decide +kernel
theorem dX2_doWovenOp_157 : decode cX2_doWovenOp 157 = .ok (.invokevirtual 333, 3) := by decide +kernel
theorem dX2_doWovenOp_160 : decode cX2_doWovenOp 160 = .ok (.goto 30, 3) := by decide +kernel
theorem dX2_doWovenOp_163 : decode cX2_doWovenOp 163 = .ok (.aload_n 0, 1) := by decide +kernel
theorem dX2_doWovenOp_164 : decode cX2_doWovenOp 164 = .ok (.aload_n 1, 1) := by decide +kernel
theorem dX2_doWovenOp_165 : decode cX2_doWovenOp 165 = .ok (.iload_n 3, 1) := by decide +kernel
theorem dX2_doWovenOp_166 : decode cX2_doWovenOp 166 = .ok (.invokevirtual 342, 3) := by decide +kernel
theorem dX2_doWovenOp_169 : decode cX2_doWovenOp 169 = .ok (.goto 21, 3) := by decide +kernel
theorem dX2_doWovenOp_172 : decode cX2_doWovenOp 172 = .ok (.aload_n 0, 1) := by decide +kernel
theorem dX2_doWovenOp_173 : decode cX2_doWovenOp 173 = .ok (.aload_n 1, 1) := by decide +kernel
theorem dX2_doWovenOp_174 : decode cX2_doWovenOp 174 = .ok (.invokevirtual 215, 3) := by decide +kernel
theorem dX2_doWovenOp_177 : decode cX2_doWovenOp 177 = .ok (.putfield 37, 3) := by decide +kernel
theorem dX2_doWovenOp_180 : decode cX2_doWovenOp 180 = .ok (.aload_n 0, 1) := by decide +kernel
theorem dX2_doWovenOp_181 : decode cX2_doWovenOp 181 = .ok (.dup, 1) := by decide +kernel
theorem dX2_doWovenOp_182 : decode cX2_doWovenOp 182 = .ok (.getfield 34, 3) := by decide +kernel
theorem dX2_doWovenOp_185 : decode cX2_doWovenOp 185 = .ok (.iconst 1, 1) := by decide +kernel
theorem dX2_doWovenOp_186 : decode cX2_doWovenOp 186 = .ok (.isub, 1) := by decide +kernel
theorem dX2_doWovenOp_187 : decode cX2_doWovenOp 187 = .ok (.putfield 34, 3) := by decide +kernel
theorem dX2_doWovenOp_190 : decode cX2_doWovenOp 190 = .ok (.aload_n 0, 1) := by decide +kernel
theorem dX2_doWovenOp_191 : decode cX2_doWovenOp 191 = .ok (.getfield 37, 3) := by decide +kernel
theorem dX2_doWovenOp_194 : decode cX2_doWovenOp 194 = .ok (.ifCond .ne 23, 3) := by decide +kernel
theorem dX2_doWovenOp_197 : decode cX2_doWovenOp 197 = .ok (.aload_n 1, 1) := by decide +kernel
theorem dX2_doWovenOp_198 : decode cX2_doWovenOp 198 = .ok (.dup, 1) := by decide +kernel
theorem dX2_doWovenOp_199 : decode cX2_doWovenOp 199 = .ok (.getfield 150, 3) := by decide +kernel
theorem dX2_doWovenOp_202 : decode cX2_doWovenOp 202 = .ok (.iload_n 2, 1) := by decide +kernel
theorem dX2_doWovenOp_203 : decode cX2_doWovenOp 203 = .ok (.bipush 49, 2) := by decide +kernel
theorem dX2_doWovenOp_205 : decode cX2_doWovenOp 205 = .ok (.if_icmp .ne 7, 3) := by decide +kernel
theorem dX2_doWovenOp_208 : decode cX2_doWovenOp 208 = .ok (.iconst 3, 1) := by decide +kernel
theorem dX2_doWovenOp_209 : decode cX2_doWovenOp 209 = .ok (.goto 4, 3) := by decide +kernel
theorem dX2_doWovenOp_212 : decode cX2_doWovenOp 212 = .ok (.iconst 2, 1) := by decide +kernel
theorem dX2_doWovenOp_213 : decode cX2_doWovenOp 213 = .ok (.iadd, 1) := by decide +kernel
theorem dX2_doWovenOp_214 : decode cX2_doWovenOp 214 = .ok (.putfield 150, 3) := by decide +kernel
theorem dX2_doWovenOp_217 : decode cX2_doWovenOp 217 = .ok (.return_, 1) := by decide +kernel
theorem dX3_init_0 : decode cX3_init 0 = .ok (.aload_n 0, 1) := by decide +kernel
theorem dX3_init_1 : decode cX3_init 1 = .ok (.invokespecial 3, 3) := by decide +kernel
theorem dX3_init_4 : decode cX3_init 4 = .ok (.aload_n 0, 1) := by decide +kernel
theorem dX3_init_5 : decode cX3_init 5 = .ok (.sipush 400, 3) := by decide +kernel
theorem dX3_init_8 : decode cX3_init 8 = .ok (.newarray .int, 2) := by decide +kernel
theorem dX3_init_10 : decode cX3_init 10 = .ok (.putfield 9, 3) := by decide +kernel
theorem dX3_init_13 : decode cX3_init 13 = .ok (.aload_n 0, 1) := by decide +kernel
theorem dX3_init_14 : decode cX3_init 14 = .ok (.sipush 400, 3) := by decide +kernel
theorem dX3_init_17 : decode cX3_init 17 = .ok (.newarray .int, 2) := by decide +kernel
theorem dX3_init_19 : decode cX3_init 19 = .ok (.putfield 15, 3) := by decide +kernel
theorem dX3_init_22 : decode cX3_init 22 = .ok (.aload_n 0, 1) := by decide +kernel
theorem dX3_init_23 : decode cX3_init 23 = .ok (.sipush 400, 3) := by decide +kernel
theorem dX3_init_26 : decode cX3_init 26 = .ok (.newarray .int, 2) := by decide +kernel
theorem dX3_init_28 : decode cX3_init 28 = .ok (.putfield 18, 3) := by decide +kernel
theorem dX3_init_31 : decode cX3_init 31 = .ok (.aload_n 0, 1) := by decide +kernel
theorem dX3_init_32 : decode cX3_init 32 = .ok (.sipush 400, 3) := by decide +kernel
theorem dX3_init_35 : decode cX3_init 35 = .ok (.newarray .int, 2) := by decide +kernel
theorem dX3_init_37 : decode cX3_init 37 = .ok (.putfield 21, 3) := by decide +kernel
theorem dX3_init_40 : decode cX3_init 40 = .ok (.aload_n 0, 1) := by decide +kernel
theorem dX3_init_41 : decode cX3_init 41 = .ok (.bipush 32, 2) := by decide +kernel
theorem dX3_init_43 : decode cX3_init 43 = .ok (.newarray .int, 2) := by decide +kernel
theorem dX3_init_45 : decode cX3_init 45 = .ok (.putfield 24, 3) := by decide +kernel
theorem dX3_init_48 : decode cX3_init 48 = .ok (.aload_n 0, 1) := by decide +kernel
theorem dX3_init_49 : decode cX3_init 49 = .ok (.new 27, 3) := by decide +kernel
theorem dX3_init_52 : decode cX3_init 52 = .ok (.dup, 1) := by decide +kernel
theorem dX3_init_53 : decode cX3_init 53 = .ok (.invokespecial 29, 3) := by decide +kernel
theorem dX3_init_56 : decode cX3_init 56 = .ok (.putfield 30, 3) := by decide +kernel
theorem dX3_init_59 : decode cX3_init 59 = .ok (.aload_n 0, 1) := by decide +kernel
theorem dX3_init_60 : decode cX3_init 60 = .ok (.iconst 0, 1) := by decide +kernel
theorem dX3_init_61 : decode cX3_init 61 = .ok (.putfield 34, 3) := by decide +kernel
theorem dX3_init_64 : decode cX3_init 64 = .ok (.aload_n 0, 1) := by decide +kernel
theorem dX3_init_65 : decode cX3_init 65 = .ok (.iconst 0, 1) := by decide +kernel
theorem dX3_init_66 : decode cX3_init 66 = .ok (.putfield 38, 3) := by decide +kernel
theorem dX3_init_69 : decode cX3_init 69 = .ok (.aload_n 0, 1) := by decide +kernel
theorem dX3_init_70 : decode cX3_init 70 = .ok (.iconst 0, 1) := by decide +kernel
theorem dX3_init_71 : decode cX3_init 71 = .ok (.putfield 41, 3) := by decide +kernel
theorem dX3_init_74 : decode cX3_init 74 = .ok (.aload_n 0, 1) := by decide +kernel
theorem dX3_init_75 : decode cX3_init 75 = .ok (.iconst 0, 1) := by decide +kernel
theorem dX3_init_76 : decode cX3_init 76 = .ok (.putfield 44, 3) := by decide +kernel
theorem dX3_init_79 : decode cX3_init 79 = .ok (.aload_n 0, 1) := by decide +kernel
theorem dX3_init_80 : decode cX3_init 80 = .ok (.iload_n 1, 1) := by decide +kernel
theorem dX3_init_81 : decode cX3_init 81 = .ok (.putfield 47, 3) := by decide +kernel
theorem dX3_init_84 : decode cX3_init 84 = .ok (.return_, 1) := by decide +kernel
theorem dX3_beginsAt_0 : decode cX3_beginsAt 0 = .ok (.iload_n 1, 1) := by decide +kernel
theorem dX3_beginsAt_1 : decode cX3_beginsAt 1 = .ok (.ifCond .lt 31, 3) := by decide +kernel
theorem dX3_beginsAt_4 : decode cX3_beginsAt 4 = .ok (.iload_n 1, 1) := by decide +kernel
theorem dX3_beginsAt_5 : decode cX3_beginsAt 5 = .ok (.aload_n 0, 1) := by decide +kernel
theorem dX3_beginsAt_6 : decode cX3_beginsAt 6 = .ok (.getfield 41, 3) := by decide +kernel
theorem dX3_beginsAt_9 : decode cX3_beginsAt 9 = .ok (.if_icmp .ge 23, 3) := by decide +kernel
theorem dX3_beginsAt_12 : decode cX3_beginsAt 12 = .ok (.iload_n 1, 1) := by decide +kernel
theorem dX3_beginsAt_13 : decode cX3_beginsAt 13 = .ok (.sipush 400, 3) := by decide +kernel
theorem dX3_beginsAt_16 : decode cX3_beginsAt 16 = .ok (.if_icmp .ge 16, 3) := by decide +kernel
theorem dX3_beginsAt_19 : decode cX3_beginsAt 19 = .ok (.aload_n 0, 1) := by decide +kernel
theorem dX3_beginsAt_20 : decode cX3_beginsAt 20 = .ok (.getfield 15, 3) := by decide +kernel
theorem dX3_beginsAt_23 : decode cX3_beginsAt 23 = .ok (.iload_n 1, 1) := by decide +kernel
theorem dX3_beginsAt_24 : decode cX3_beginsAt 24 = .ok (.iaload, 1) := by decide +kernel
theorem dX3_beginsAt_25 : decode cX3_beginsAt 25 = .ok (.ifCond .le 7, 3) := by decide +kernel
theorem dX3_beginsAt_28 : decode cX3_beginsAt 28 = .ok (.iconst 1, 1) := by decide +kernel
theorem dX3_beginsAt_29 : decode cX3_beginsAt 29 = .ok (.goto 4, 3) := by decide +kernel
theorem dX3_beginsAt_32 : decode cX3_beginsAt 32 = .ok (.iconst 0, 1) := by decide +kernel
theorem dX3_beginsAt_33 : decode cX3_beginsAt 33 = .ok (.ireturn, 1) := by decide +kernel
theorem dX3_jumpFault_0 : decode cX3_jumpFault 0 = .ok (.iconst 0, 1) := by decide +kernel
theorem dX3_jumpFault_1 : decode cX3_jumpFault 1 = .ok (.istore_n 1, 1) := by decide +kernel
theorem dX3_jumpFault_2 : decode cX3_jumpFault 2 = .ok (.iload_n 1, 1) := by decide +kernel
theorem dX3_jumpFault_3 : decode cX3_jumpFault 3 = .ok (.aload_n 0, 1) := by decide +kernel
theorem dX3_jumpFault_4 : decode cX3_jumpFault 4 = .ok (.getfield 41, 3) := by decide +kernel
theorem dX3_jumpFault_7 : decode cX3_jumpFault 7 = .ok (.if_icmp .ge 29, 3) := by decide +kernel
theorem dX3_jumpFault_10 : decode cX3_jumpFault 10 = .ok (.aload_n 0, 1) := by decide +kernel
theorem dX3_jumpFault_11 : decode cX3_jumpFault 11 = .ok (.iload_n 1, 1) := by decide +kernel
theorem dX3_jumpFault_12 : decode cX3_jumpFault 12 = .ok (.invokevirtual 50, 3) := by decide +kernel
theorem dX3_jumpFault_15 : decode cX3_jumpFault 15 = .ok (.ifCond .eq 15, 3) := by decide +kernel
theorem dX3_jumpFault_18 : decode cX3_jumpFault 18 = .ok (.aload_n 0, 1) := by decide +kernel
theorem dX3_jumpFault_19 : decode cX3_jumpFault 19 = .ok (.iload_n 1, 1) := by decide +kernel
theorem dX3_jumpFault_20 : decode cX3_jumpFault 20 = .ok (.invokevirtual 54, 3) := by decide +kernel
theorem dX3_jumpFault_23 : decode cX3_jumpFault 23 = .ok (.ifCond .eq 7, 3) := by decide +kernel
theorem dX3_jumpFault_26 : decode cX3_jumpFault 26 = .ok (.iconst 4, 1) := by decide +kernel
theorem dX3_jumpFault_27 : decode cX3_jumpFault 27 = .ok (.iload_n 1, 1) := by decide +kernel
theorem dX3_jumpFault_28 : decode cX3_jumpFault 28 = .ok (.iadd, 1) := by decide +kernel
theorem dX3_jumpFault_29 : decode cX3_jumpFault 29 = .ok (.ireturn, 1) := by decide +kernel
theorem dX3_jumpFault_30 : decode cX3_jumpFault 30 = .ok (.iinc 1 1, 3) := by decide +kernel
theorem dX3_jumpFault_33 : decode cX3_jumpFault 33 = .ok (.goto (-31), 3) := by decide +kernel
theorem dX3_jumpFault_36 : decode cX3_jumpFault 36 = .ok (.iconst (-1), 1) := by decide +kernel
theorem dX3_jumpFault_37 : decode cX3_jumpFault 37 = .ok (.ireturn, 1) := by decide +kernel
theorem dX3_jumpsAstray_0 : decode cX3_jumpsAstray 0 = .ok (.aload_n 0, 1) := by decide +kernel
theorem dX3_jumpsAstray_1 : decode cX3_jumpsAstray 1 = .ok (.getfield 9, 3) := by decide +kernel
theorem dX3_jumpsAstray_4 : decode cX3_jumpsAstray 4 = .ok (.iload_n 1, 1) := by decide +kernel
theorem dX3_jumpsAstray_5 : decode cX3_jumpsAstray 5 = .ok (.invokestatic 57, 3) := by decide +kernel
theorem dX3_jumpsAstray_8 : decode cX3_jumpsAstray 8 = .ok (.istore_n 2, 1) := by decide +kernel
theorem dX3_jumpsAstray_9 : decode cX3_jumpsAstray 9 = .ok (.iconst 0, 1) := by decide +kernel
theorem dX3_jumpsAstray_10 : decode cX3_jumpsAstray 10 = .ok (.istore_n 3, 1) := by decide +kernel
theorem dX3_jumpsAstray_11 : decode cX3_jumpsAstray 11 = .ok (.iload_n 3, 1) := by decide +kernel
theorem dX3_jumpsAstray_12 : decode cX3_jumpsAstray 12 = .ok (.iload_n 2, 1) := by decide +kernel
theorem dX3_jumpsAstray_13 : decode cX3_jumpsAstray 13 = .ok (.if_icmp .ge 27, 3) := by decide +kernel
theorem dX3_jumpsAstray_16 : decode cX3_jumpsAstray 16 = .ok (.aload_n 0, 1) := by decide +kernel
theorem dX3_jumpsAstray_17 : decode cX3_jumpsAstray 17 = .ok (.aload_n 0, 1) := by decide +kernel
theorem dX3_jumpsAstray_18 : decode cX3_jumpsAstray 18 = .ok (.getfield 9, 3) := by decide +kernel
theorem dX3_jumpsAstray_21 : decode cX3_jumpsAstray 21 = .ok (.iload_n 1, 1) := by decide +kernel
theorem dX3_jumpsAstray_22 : decode cX3_jumpsAstray 22 = .ok (.iload_n 3, 1) := by decide +kernel
theorem dX3_jumpsAstray_23 : decode cX3_jumpsAstray 23 = .ok (.invokestatic 61, 3) := by decide +kernel
theorem dX3_jumpsAstray_26 : decode cX3_jumpsAstray 26 = .ok (.invokevirtual 50, 3) := by decide +kernel
theorem dX3_jumpsAstray_29 : decode cX3_jumpsAstray 29 = .ok (.ifCond .ne 5, 3) := by decide +kernel
theorem dX3_jumpsAstray_32 : decode cX3_jumpsAstray 32 = .ok (.iconst 1, 1) := by decide +kernel
theorem dX3_jumpsAstray_33 : decode cX3_jumpsAstray 33 = .ok (.ireturn, 1) := by decide +kernel
theorem dX3_jumpsAstray_34 : decode cX3_jumpsAstray 34 = .ok (.iinc 3 1, 3) := by decide +kernel
theorem dX3_jumpsAstray_37 : decode cX3_jumpsAstray 37 = .ok (.goto (-26), 3) := by decide +kernel
theorem dX3_jumpsAstray_40 : decode cX3_jumpsAstray 40 = .ok (.iconst 0, 1) := by decide +kernel
theorem dX3_jumpsAstray_41 : decode cX3_jumpsAstray 41 = .ok (.ireturn, 1) := by decide +kernel
theorem dX3_handlerFault_0 : decode cX3_handlerFault 0 = .ok (.iconst 0, 1) := by decide +kernel
theorem dX3_handlerFault_1 : decode cX3_handlerFault 1 = .ok (.istore_n 1, 1) := by decide +kernel
theorem dX3_handlerFault_2 : decode cX3_handlerFault 2 = .ok (.iload_n 1, 1) := by decide +kernel
theorem dX3_handlerFault_3 : decode cX3_handlerFault 3 = .ok (.aload_n 0, 1) := by decide +kernel
theorem dX3_handlerFault_4 : decode cX3_handlerFault 4 = .ok (.getfield 44, 3) := by decide +kernel
theorem dX3_handlerFault_7 : decode cX3_handlerFault 7 = .ok (.if_icmp .ge 100, 3) := by decide +kernel
theorem dX3_handlerFault_10 : decode cX3_handlerFault 10 = .ok (.aload_n 0, 1) := by decide +kernel
theorem dX3_handlerFault_11 : decode cX3_handlerFault 11 = .ok (.getfield 24, 3) := by decide +kernel
theorem dX3_handlerFault_14 : decode cX3_handlerFault 14 = .ok (.iload_n 1, 1) := by decide +kernel
theorem dX3_handlerFault_15 : decode cX3_handlerFault 15 = .ok (.iconst 0, 1) := by decide +kernel
theorem dX3_handlerFault_16 : decode cX3_handlerFault 16 = .ok (.invokestatic 65, 3) := by decide +kernel
theorem dX3_handlerFault_19 : decode cX3_handlerFault 19 = .ok (.istore_n 2, 1) := by decide +kernel
theorem dX3_handlerFault_20 : decode cX3_handlerFault 20 = .ok (.aload_n 0, 1) := by decide +kernel
theorem dX3_handlerFault_21 : decode cX3_handlerFault 21 = .ok (.getfield 24, 3) := by decide +kernel
theorem dX3_handlerFault_24 : decode cX3_handlerFault 24 = .ok (.iload_n 1, 1) := by decide +kernel
theorem dX3_handlerFault_25 : decode cX3_handlerFault 25 = .ok (.iconst 1, 1) := by decide +kernel
theorem dX3_handlerFault_26 : decode cX3_handlerFault 26 = .ok (.invokestatic 65, 3) := by decide +kernel
theorem dX3_handlerFault_29 : decode cX3_handlerFault 29 = .ok (.istore_n 3, 1) := by decide +kernel
theorem dX3_handlerFault_30 : decode cX3_handlerFault 30 = .ok (.iload_n 3, 1) := by decide +kernel
theorem dX3_handlerFault_31 : decode cX3_handlerFault 31 = .ok (.aload_n 0, 1) := by decide +kernel
theorem dX3_handlerFault_32 : decode cX3_handlerFault 32 = .ok (.getfield 41, 3) := by decide +kernel
theorem dX3_handlerFault_35 : decode cX3_handlerFault 35 = .ok (.if_icmp .eq 11, 3) := by decide +kernel
theorem dX3_handlerFault_38 : decode cX3_handlerFault 38 = .ok (.aload_n 0, 1) := by decide +kernel
theorem dX3_handlerFault_39 : decode cX3_handlerFault 39 = .ok (.iload_n 3, 1) := by decide +kernel
theorem dX3_handlerFault_40 : decode cX3_handlerFault 40 = .ok (.invokevirtual 50, 3) := by decide +kernel
theorem dX3_handlerFault_43 : decode cX3_handlerFault 43 = .ok (.ifCond .eq 7, 3) := by decide +kernel
theorem dX3_handlerFault_46 : decode cX3_handlerFault 46 = .ok (.iconst 1, 1) := by decide +kernel
theorem dX3_handlerFault_47 : decode cX3_handlerFault 47 = .ok (.goto 4, 3) := by decide +kernel
theorem dX3_handlerFault_50 : decode cX3_handlerFault 50 = .ok (.iconst 0, 1) := by decide +kernel
theorem dX3_handlerFault_51 : decode cX3_handlerFault 51 = .ok (.istore 4, 2) := by decide +kernel
theorem dX3_handlerFault_53 : decode cX3_handlerFault 53 = .ok (.aload_n 0, 1) := by decide +kernel
theorem dX3_handlerFault_54 : decode cX3_handlerFault 54 = .ok (.iload_n 2, 1) := by decide +kernel
theorem dX3_handlerFault_55 : decode cX3_handlerFault 55 = .ok (.invokevirtual 50, 3) := by decide +kernel
theorem dX3_handlerFault_58 : decode cX3_handlerFault 58 = .ok (.ifCond .eq 29, 3) := by decide +kernel
theorem dX3_handlerFault_61 : decode cX3_handlerFault 61 = .ok (.iload 4, 2) := by decide +kernel
theorem dX3_handlerFault_63 : decode cX3_handlerFault 63 = .ok (.ifCond .eq 24, 3) := by decide +kernel
theorem dX3_handlerFault_66 : decode cX3_handlerFault 66 = .ok (.iload_n 2, 1) := by decide +kernel
theorem dX3_handlerFault_67 : decode cX3_handlerFault 67 = .ok (.iload_n 3, 1) := by decide +kernel
theorem dX3_handlerFault_68 : decode cX3_handlerFault 68 = .ok (.if_icmp .ge 19, 3) := by decide +kernel
theorem dX3_handlerFault_71 : decode cX3_handlerFault 71 = .ok (.aload_n 0, 1) := by decide +kernel
theorem dX3_handlerFault_72 : decode cX3_handlerFault 72 = .ok (.aload_n 0, 1) := by decide +kernel
theorem dX3_handlerFault_73 : decode cX3_handlerFault 73 = .ok (.getfield 24, 3) := by decide +kernel
theorem dX3_handlerFault_76 : decode cX3_handlerFault 76 = .ok (.iload_n 1, 1) := by decide +kernel
theorem dX3_handlerFault_77 : decode cX3_handlerFault 77 = .ok (.iconst 2, 1) := by decide +kernel
theorem dX3_handlerFault_78 : decode cX3_handlerFault 78 = .ok (.invokestatic 65, 3) := by decide +kernel
theorem dX3_handlerFault_81 : decode cX3_handlerFault 81 = .ok (.invokevirtual 50, 3) := by decide +kernel
theorem dX3_handlerFault_84 : decode cX3_handlerFault 84 = .ok (.ifCond .ne 17, 3) := by decide +kernel
theorem dX3_handlerFault_87 : decode cX3_handlerFault 87 = .ok (.iconst 4, 1) := by decide +kernel
theorem dX3_handlerFault_88 : decode cX3_handlerFault 88 = .ok (.aload_n 0, 1) := by decide +kernel
theorem dX3_handlerFault_89 : decode cX3_handlerFault 89 = .ok (.getfield 41, 3) := by decide +kernel
theorem dX3_handlerFault_92 : decode cX3_handlerFault 92 = .ok (.iadd, 1) := by decide +kernel
theorem dX3_handlerFault_93 : decode cX3_handlerFault 93 = .ok (.iconst 1, 1) := by decide +kernel
theorem dX3_handlerFault_94 : decode cX3_handlerFault 94 = .ok (.iadd, 1) := by decide +kernel
theorem dX3_handlerFault_95 : decode cX3_handlerFault 95 = .ok (.bipush 7, 2) := by decide +kernel
theorem dX3_handlerFault_97 : decode cX3_handlerFault 97 = .ok (.iload_n 1, 1) := by decide +kernel
theorem dX3_handlerFault_98 : decode cX3_handlerFault 98 = .ok (.imul, 1) := by decide +kernel
theorem dX3_handlerFault_99 : decode cX3_handlerFault 99 = .ok (.iadd, 1) := by decide +kernel
theorem dX3_handlerFault_100 : decode cX3_handlerFault 100 = .ok (.ireturn, 1) := by decide +kernel
theorem dX3_handlerFault_101 : decode cX3_handlerFault 101 = .ok (.iinc 1 1, 3) := by decide +kernel
theorem dX3_handlerFault_104 : decode cX3_handlerFault 104 = .ok (.goto (-102), 3) := by decide +kernel
theorem dX3_handlerFault_107 : decode cX3_handlerFault 107 = .ok (.iconst (-1), 1) := by decide +kernel
theorem dX3_handlerFault_108 : decode cX3_handlerFault 108 = .ok (.ireturn, 1) := by decide +kernel
theorem dX3_takesProbe_0 : decode cX3_takesProbe 0 = .ok (.aload_n 0, 1) := by decide +kernel
theorem dX3_takesProbe_1 : decode cX3_takesProbe 1 = .ok (.iload_n 2, 1) := by decide +kernel
theorem dX3_takesProbe_2 : decode cX3_takesProbe 2 = .ok (.invokevirtual 50, 3) := by decide +kernel
theorem dX3_takesProbe_5 : decode cX3_takesProbe 5 = .ok (.ifCond .ne 5, 3) := by decide +kernel
theorem dX3_takesProbe_8 : decode cX3_takesProbe 8 = .ok (.iconst 0, 1) := by decide +kernel
theorem dX3_takesProbe_9 : decode cX3_takesProbe 9 = .ok (.ireturn, 1) := by decide +kernel
theorem dX3_takesProbe_10 : decode cX3_takesProbe 10 = .ok (.aload_n 0, 1) := by decide +kernel
theorem dX3_takesProbe_11 : decode cX3_takesProbe 11 = .ok (.getfield 9, 3) := by decide +kernel
theorem dX3_takesProbe_14 : decode cX3_takesProbe 14 = .ok (.iload_n 2, 1) := by decide +kernel
theorem dX3_takesProbe_15 : decode cX3_takesProbe 15 = .ok (.iaload, 1) := by decide +kernel
theorem dX3_takesProbe_16 : decode cX3_takesProbe 16 = .ok (.istore_n 3, 1) := by decide +kernel
theorem dX3_takesProbe_17 : decode cX3_takesProbe 17 = .ok (.iload_n 1, 1) := by decide +kernel
theorem dX3_takesProbe_18 : decode cX3_takesProbe 18 = .ok (.tableswitch 92 0 7 #[46, 48, 53, 53, 63, 81, 46, 87], 46) := by decide +kernel
theorem dX3_takesProbe_64 : decode cX3_takesProbe 64 = .ok (.iconst 1, 1) := by decide +kernel
theorem dX3_takesProbe_65 : decode cX3_takesProbe 65 = .ok (.ireturn, 1) := by decide +kernel
theorem dX3_takesProbe_66 : decode cX3_takesProbe 66 = .ok (.iload_n 3, 1) := by decide +kernel
theorem dX3_takesProbe_67 : decode cX3_takesProbe 67 = .ok (.invokestatic 68, 3) := by decide +kernel
theorem dX3_takesProbe_70 : decode cX3_takesProbe 70 = .ok (.ireturn, 1) := by decide +kernel
theorem dX3_takesProbe_71 : decode cX3_takesProbe 71 = .ok (.iload_n 2, 1) := by decide +kernel
theorem dX3_takesProbe_72 : decode cX3_takesProbe 72 = .ok (.ifCond .ne 7, 3) := by decide +kernel
theorem dX3_takesProbe_75 : decode cX3_takesProbe 75 = .ok (.iconst 1, 1) := by decide +kernel
theorem dX3_takesProbe_76 : decode cX3_takesProbe 76 = .ok (.goto 4, 3) := by decide +kernel
theorem dX3_takesProbe_79 : decode cX3_takesProbe 79 = .ok (.iconst 0, 1) := by decide +kernel
theorem dX3_takesProbe_80 : decode cX3_takesProbe 80 = .ok (.ireturn, 1) := by decide +kernel
theorem dX3_takesProbe_81 : decode cX3_takesProbe 81 = .ok (.iload_n 3, 1) := by decide +kernel
theorem dX3_takesProbe_82 : decode cX3_takesProbe 82 = .ok (.bipush 35, 2) := by decide +kernel
theorem dX3_takesProbe_84 : decode cX3_takesProbe 84 = .ok (.if_icmp .eq 9, 3) := by decide +kernel
theorem dX3_takesProbe_87 : decode cX3_takesProbe 87 = .ok (.iload_n 3, 1) := by decide +kernel
theorem dX3_takesProbe_88 : decode cX3_takesProbe 88 = .ok (.bipush 39, 2) := by decide +kernel
theorem dX3_takesProbe_90 : decode cX3_takesProbe 90 = .ok (.if_icmp .ne 7, 3) := by decide +kernel
theorem dX3_takesProbe_93 : decode cX3_takesProbe 93 = .ok (.iconst 1, 1) := by decide +kernel
theorem dX3_takesProbe_94 : decode cX3_takesProbe 94 = .ok (.goto 4, 3) := by decide +kernel
theorem dX3_takesProbe_97 : decode cX3_takesProbe 97 = .ok (.iconst 0, 1) := by decide +kernel
theorem dX3_takesProbe_98 : decode cX3_takesProbe 98 = .ok (.ireturn, 1) := by decide +kernel
theorem dX3_takesProbe_99 : decode cX3_takesProbe 99 = .ok (.aload_n 0, 1) := by decide +kernel
theorem dX3_takesProbe_100 : decode cX3_takesProbe 100 = .ok (.iload_n 2, 1) := by decide +kernel
theorem dX3_takesProbe_101 : decode cX3_takesProbe 101 = .ok (.invokevirtual 71, 3) := by decide +kernel
theorem dX3_takesProbe_104 : decode cX3_takesProbe 104 = .ok (.ireturn, 1) := by decide +kernel
theorem dX3_takesProbe_105 : decode cX3_takesProbe 105 = .ok (.iload_n 3, 1) := by decide +kernel
theorem dX3_takesProbe_106 : decode cX3_takesProbe 106 = .ok (.invokestatic 74, 3) := by decide +kernel
theorem dX3_takesProbe_109 : decode cX3_takesProbe 109 = .ok (.ireturn, 1) := by decide +kernel
theorem dX3_takesProbe_110 : decode cX3_takesProbe 110 = .ok (.iconst 0, 1) := by decide +kernel
theorem dX3_takesProbe_111 : decode cX3_takesProbe 111 = .ok (.ireturn, 1) := by decide +kernel
theorem dX3_isTarget_0 : decode cX3_isTarget 0 = .ok (.iconst 0, 1) := by decide +kernel
theorem dX3_isTarget_1 : decode cX3_isTarget 1 = .ok (.istore_n 2, 1) := by decide +kernel
theorem dX3_isTarget_2 : decode cX3_isTarget 2 = .ok (.iload_n 2, 1) := by decide +kernel
theorem dX3_isTarget_3 : decode cX3_isTarget 3 = .ok (.aload_n 0, 1) := by decide +kernel
theorem dX3_isTarget_4 : decode cX3_isTarget 4 = .ok (.getfield 44, 3) := by decide +kernel
theorem dX3_isTarget_7 : decode cX3_isTarget 7 = .ok (.if_icmp .ge 24, 3) := by decide +kernel
theorem dX3_isTarget_10 : decode cX3_isTarget 10 = .ok (.aload_n 0, 1) := by decide +kernel
theorem dX3_isTarget_11 : decode cX3_isTarget 11 = .ok (.getfield 24, 3) := by decide +kernel
theorem dX3_isTarget_14 : decode cX3_isTarget 14 = .ok (.iload_n 2, 1) := by decide +kernel
theorem dX3_isTarget_15 : decode cX3_isTarget 15 = .ok (.iconst 2, 1) := by decide +kernel
theorem dX3_isTarget_16 : decode cX3_isTarget 16 = .ok (.invokestatic 65, 3) := by decide +kernel
theorem dX3_isTarget_19 : decode cX3_isTarget 19 = .ok (.iload_n 1, 1) := by decide +kernel
theorem dX3_isTarget_20 : decode cX3_isTarget 20 = .ok (.if_icmp .ne 5, 3) := by decide +kernel
theorem dX3_isTarget_23 : decode cX3_isTarget 23 = .ok (.iconst 1, 1) := by decide +kernel
theorem dX3_isTarget_24 : decode cX3_isTarget 24 = .ok (.ireturn, 1) := by decide +kernel
theorem dX3_isTarget_25 : decode cX3_isTarget 25 = .ok (.iinc 2 1, 3) := by decide +kernel
theorem dX3_isTarget_28 : decode cX3_isTarget 28 = .ok (.goto (-26), 3) := by decide +kernel
theorem dX3_isTarget_31 : decode cX3_isTarget 31 = .ok (.iconst 0, 1) := by decide +kernel
theorem dX3_isTarget_32 : decode cX3_isTarget 32 = .ok (.ireturn, 1) := by decide +kernel
theorem dX3_tell_0 : decode cX3_tell 0 = .ok (.iload_n 1, 1) := by decide +kernel
theorem dX3_tell_1 : decode cX3_tell 1 = .ok (.tableswitch 69 0 5 #[39, 44, 49, 54, 59, 64], 39) := by decide +kernel
theorem dX3_tell_40 : decode cX3_tell 40 = .ok (.aload_n 0, 1) := by decide +kernel
theorem dX3_tell_41 : decode cX3_tell 41 = .ok (.getfield 34, 3) := by decide +kernel
theorem dX3_tell_44 : decode cX3_tell 44 = .ok (.ireturn, 1) := by decide +kernel
theorem dX3_tell_45 : decode cX3_tell 45 = .ok (.aload_n 0, 1) := by decide +kernel
theorem dX3_tell_46 : decode cX3_tell 46 = .ok (.getfield 38, 3) := by decide +kernel
theorem dX3_tell_49 : decode cX3_tell 49 = .ok (.ireturn, 1) := by decide +kernel
theorem dX3_tell_50 : decode cX3_tell 50 = .ok (.aload_n 0, 1) := by decide +kernel
theorem dX3_tell_51 : decode cX3_tell 51 = .ok (.getfield 41, 3) := by decide +kernel
theorem dX3_tell_54 : decode cX3_tell 54 = .ok (.ireturn, 1) := by decide +kernel
theorem dX3_tell_55 : decode cX3_tell 55 = .ok (.aload_n 0, 1) := by decide +kernel
theorem dX3_tell_56 : decode cX3_tell 56 = .ok (.getfield 44, 3) := by decide +kernel
theorem dX3_tell_59 : decode cX3_tell 59 = .ok (.ireturn, 1) := by decide +kernel
theorem dX3_tell_60 : decode cX3_tell 60 = .ok (.aload_n 0, 1) := by decide +kernel
theorem dX3_tell_61 : decode cX3_tell 61 = .ok (.invokevirtual 77, 3) := by decide +kernel
theorem dX3_tell_64 : decode cX3_tell 64 = .ok (.ireturn, 1) := by decide +kernel
theorem dX3_tell_65 : decode cX3_tell 65 = .ok (.aload_n 0, 1) := by decide +kernel
theorem dX3_tell_66 : decode cX3_tell 66 = .ok (.invokevirtual 81, 3) := by decide +kernel
theorem dX3_tell_69 : decode cX3_tell 69 = .ok (.ireturn, 1) := by decide +kernel
theorem dX3_tell_70 : decode cX3_tell 70 = .ok (.aload_n 0, 1) := by decide +kernel
theorem dX3_tell_71 : decode cX3_tell 71 = .ok (.getfield 30, 3) := by decide +kernel
theorem dX3_tell_74 : decode cX3_tell 74 = .ok (.iload_n 1, 1) := by decide +kernel
theorem dX3_tell_75 : decode cX3_tell 75 = .ok (.invokevirtual 84, 3) := by decide +kernel
theorem dX3_tell_78 : decode cX3_tell 78 = .ok (.ireturn, 1) := by decide +kernel
theorem dX3_instructionCount_0 : decode cX3_instructionCount 0 = .ok (.iconst 0, 1) := by decide +kernel
theorem dX3_instructionCount_1 : decode cX3_instructionCount 1 = .ok (.istore_n 1, 1) := by decide +kernel
theorem dX3_instructionCount_2 : decode cX3_instructionCount 2 = .ok (.iconst 0, 1) := by decide +kernel
theorem dX3_instructionCount_3 : decode cX3_instructionCount 3 = .ok (.istore_n 2, 1) := by decide +kernel
theorem dX3_instructionCount_4 : decode cX3_instructionCount 4 = .ok (.iload_n 2, 1) := by decide +kernel
theorem dX3_instructionCount_5 : decode cX3_instructionCount 5 = .ok (.aload_n 0, 1) := by decide +kernel
theorem dX3_instructionCount_6 : decode cX3_instructionCount 6 = .ok (.getfield 41, 3) := by decide +kernel
theorem dX3_instructionCount_9 : decode cX3_instructionCount 9 = .ok (.if_icmp .ge 20, 3) := by decide +kernel
theorem dX3_instructionCount_12 : decode cX3_instructionCount 12 = .ok (.aload_n 0, 1) := by decide +kernel
theorem dX3_instructionCount_13 : decode cX3_instructionCount 13 = .ok (.iload_n 2, 1) := by decide +kernel
theorem dX3_instructionCount_14 : decode cX3_instructionCount 14 = .ok (.invokevirtual 50, 3) := by decide +kernel
theorem dX3_instructionCount_17 : decode cX3_instructionCount 17 = .ok (.ifCond .eq 6, 3) := by decide +kernel
theorem dX3_instructionCount_20 : decode cX3_instructionCount 20 = .ok (.iinc 1 1, 3) := by decide +kernel
theorem dX3_instructionCount_23 : decode cX3_instructionCount 23 = .ok (.iinc 2 1, 3) := by decide +kernel
theorem dX3_instructionCount_26 : decode cX3_instructionCount 26 = .ok (.goto (-22), 3) := by decide +kernel
theorem dX3_instructionCount_29 : decode cX3_instructionCount 29 = .ok (.iload_n 1, 1) := by decide +kernel
theorem dX3_instructionCount_30 : decode cX3_instructionCount 30 = .ok (.ireturn, 1) := by decide +kernel
theorem dX3_greatestHeight_0 : decode cX3_greatestHeight 0 = .ok (.iconst 0, 1) := by decide +kernel
theorem dX3_greatestHeight_1 : decode cX3_greatestHeight 1 = .ok (.istore_n 1, 1) := by decide +kernel
theorem dX3_greatestHeight_2 : decode cX3_greatestHeight 2 = .ok (.iconst 0, 1) := by decide +kernel
theorem dX3_greatestHeight_3 : decode cX3_greatestHeight 3 = .ok (.istore_n 2, 1) := by decide +kernel
theorem dX3_greatestHeight_4 : decode cX3_greatestHeight 4 = .ok (.iload_n 2, 1) := by decide +kernel
theorem dX3_greatestHeight_5 : decode cX3_greatestHeight 5 = .ok (.aload_n 0, 1) := by decide +kernel
theorem dX3_greatestHeight_6 : decode cX3_greatestHeight 6 = .ok (.getfield 41, 3) := by decide +kernel
theorem dX3_greatestHeight_9 : decode cX3_greatestHeight 9 = .ok (.if_icmp .ge 31, 3) := by decide +kernel
theorem dX3_greatestHeight_12 : decode cX3_greatestHeight 12 = .ok (.aload_n 0, 1) := by decide +kernel
theorem dX3_greatestHeight_13 : decode cX3_greatestHeight 13 = .ok (.iload_n 2, 1) := by decide +kernel
theorem dX3_greatestHeight_14 : decode cX3_greatestHeight 14 = .ok (.invokevirtual 88, 3) := by decide +kernel
theorem dX3_greatestHeight_17 : decode cX3_greatestHeight 17 = .ok (.ifCond .eq 17, 3) := by decide +kernel
theorem dX3_greatestHeight_20 : decode cX3_greatestHeight 20 = .ok (.iload_n 1, 1) := by decide +kernel
theorem dX3_greatestHeight_21 : decode cX3_greatestHeight 21 = .ok (.aload_n 0, 1) := by decide +kernel
theorem dX3_greatestHeight_22 : decode cX3_greatestHeight 22 = .ok (.getfield 18, 3) := by decide +kernel
theorem dX3_greatestHeight_25 : decode cX3_greatestHeight 25 = .ok (.iload_n 2, 1) := by decide +kernel
theorem dX3_greatestHeight_26 : decode cX3_greatestHeight 26 = .ok (.iaload, 1) := by decide +kernel
theorem dX3_greatestHeight_27 : decode cX3_greatestHeight 27 = .ok (.bipush 20, 2) := by decide +kernel
theorem dX3_greatestHeight_29 : decode cX3_greatestHeight 29 = .ok (.ishr, 1) := by decide +kernel
theorem dX3_greatestHeight_30 : decode cX3_greatestHeight 30 = .ok (.invokestatic 91, 3) := by decide +kernel
theorem dX3_greatestHeight_33 : decode cX3_greatestHeight 33 = .ok (.istore_n 1, 1) := by decide +kernel
theorem dX3_greatestHeight_34 : decode cX3_greatestHeight 34 = .ok (.iinc 2 1, 3) := by decide +kernel
theorem dX3_greatestHeight_37 : decode cX3_greatestHeight 37 = .ok (.goto (-33), 3) := by decide +kernel
theorem dX3_greatestHeight_40 : decode cX3_greatestHeight 40 = .ok (.iload_n 1, 1) := by decide +kernel
theorem dX3_greatestHeight_41 : decode cX3_greatestHeight 41 = .ok (.ireturn, 1) := by decide +kernel
theorem dX3_isComeTo_0 : decode cX3_isComeTo 0 = .ok (.aload_n 0, 1) := by decide +kernel
theorem dX3_isComeTo_1 : decode cX3_isComeTo 1 = .ok (.iload_n 1, 1) := by decide +kernel
theorem dX3_isComeTo_2 : decode cX3_isComeTo 2 = .ok (.invokevirtual 50, 3) := by decide +kernel
theorem dX3_isComeTo_5 : decode cX3_isComeTo 5 = .ok (.ifCond .eq 17, 3) := by decide +kernel
theorem dX3_isComeTo_8 : decode cX3_isComeTo 8 = .ok (.aload_n 0, 1) := by decide +kernel
theorem dX3_isComeTo_9 : decode cX3_isComeTo 9 = .ok (.getfield 18, 3) := by decide +kernel
theorem dX3_isComeTo_12 : decode cX3_isComeTo 12 = .ok (.iload_n 1, 1) := by decide +kernel
theorem dX3_isComeTo_13 : decode cX3_isComeTo 13 = .ok (.iaload, 1) := by decide +kernel
theorem dX3_isComeTo_14 : decode cX3_isComeTo 14 = .ok (.iconst (-1), 1) := by decide +kernel
theorem dX3_isComeTo_15 : decode cX3_isComeTo 15 = .ok (.if_icmp .eq 7, 3) := by decide +kernel
theorem dX3_isComeTo_18 : decode cX3_isComeTo 18 = .ok (.iconst 1, 1) := by decide +kernel
theorem dX3_isComeTo_19 : decode cX3_isComeTo 19 = .ok (.goto 4, 3) := by decide +kernel
theorem dX3_isComeTo_22 : decode cX3_isComeTo 22 = .ok (.iconst 0, 1) := by decide +kernel
theorem dX3_isComeTo_23 : decode cX3_isComeTo 23 = .ok (.ireturn, 1) := by decide +kernel
theorem dX3_typeBefore_0 : decode cX3_typeBefore 0 = .ok (.aload_n 0, 1) := by decide +kernel
theorem dX3_typeBefore_1 : decode cX3_typeBefore 1 = .ok (.iload_n 1, 1) := by decide +kernel
theorem dX3_typeBefore_2 : decode cX3_typeBefore 2 = .ok (.invokevirtual 88, 3) := by decide +kernel
theorem dX3_typeBefore_5 : decode cX3_typeBefore 5 = .ok (.ifCond .ne 5, 3) := by decide +kernel
theorem dX3_typeBefore_8 : decode cX3_typeBefore 8 = .ok (.iconst (-1), 1) := by decide +kernel
theorem dX3_typeBefore_9 : decode cX3_typeBefore 9 = .ok (.ireturn, 1) := by decide +kernel
theorem dX3_typeBefore_10 : decode cX3_typeBefore 10 = .ok (.aload_n 0, 1) := by decide +kernel
theorem dX3_typeBefore_11 : decode cX3_typeBefore 11 = .ok (.getfield 18, 3) := by decide +kernel
theorem dX3_typeBefore_14 : decode cX3_typeBefore 14 = .ok (.iload_n 1, 1) := by decide +kernel
theorem dX3_typeBefore_15 : decode cX3_typeBefore 15 = .ok (.iaload, 1) := by decide +kernel
theorem dX3_typeBefore_16 : decode cX3_typeBefore 16 = .ok (.bipush 20, 2) := by decide +kernel
theorem dX3_typeBefore_18 : decode cX3_typeBefore 18 = .ok (.ishr, 1) := by decide +kernel
theorem dX3_typeBefore_19 : decode cX3_typeBefore 19 = .ok (.istore_n 3, 1) := by decide +kernel
theorem dX3_typeBefore_20 : decode cX3_typeBefore 20 = .ok (.iload_n 2, 1) := by decide +kernel
theorem dX3_typeBefore_21 : decode cX3_typeBefore 21 = .ok (.ifCond .ne 5, 3) := by decide +kernel
theorem dX3_typeBefore_24 : decode cX3_typeBefore 24 = .ok (.iload_n 3, 1) := by decide +kernel
theorem dX3_typeBefore_25 : decode cX3_typeBefore 25 = .ok (.ireturn, 1) := by decide +kernel
theorem dX3_typeBefore_26 : decode cX3_typeBefore 26 = .ok (.iload_n 2, 1) := by decide +kernel
theorem dX3_typeBefore_27 : decode cX3_typeBefore 27 = .ok (.iconst 1, 1) := by decide +kernel
theorem dX3_typeBefore_28 : decode cX3_typeBefore 28 = .ok (.if_icmp .lt 26, 3) := by decide +kernel
theorem dX3_typeBefore_31 : decode cX3_typeBefore 31 = .ok (.iload_n 2, 1) := by decide +kernel
theorem dX3_typeBefore_32 : decode cX3_typeBefore 32 = .ok (.aload_n 0, 1) := by decide +kernel
theorem dX3_typeBefore_33 : decode cX3_typeBefore 33 = .ok (.getfield 38, 3) := by decide +kernel
theorem dX3_typeBefore_36 : decode cX3_typeBefore 36 = .ok (.if_icmp .gt 18, 3) := by decide +kernel
theorem dX3_typeBefore_39 : decode cX3_typeBefore 39 = .ok (.aload_n 0, 1) := by decide +kernel
theorem dX3_typeBefore_40 : decode cX3_typeBefore 40 = .ok (.getfield 21, 3) := by decide +kernel
theorem dX3_typeBefore_43 : decode cX3_typeBefore 43 = .ok (.iload_n 1, 1) := by decide +kernel
theorem dX3_typeBefore_44 : decode cX3_typeBefore 44 = .ok (.iaload, 1) := by decide +kernel
theorem dX3_typeBefore_45 : decode cX3_typeBefore 45 = .ok (.iconst 2, 1) := by decide +kernel
theorem dX3_typeBefore_46 : decode cX3_typeBefore 46 = .ok (.iload_n 2, 1) := by decide +kernel
theorem dX3_typeBefore_47 : decode cX3_typeBefore 47 = .ok (.iconst 1, 1) := by decide +kernel
theorem dX3_typeBefore_48 : decode cX3_typeBefore 48 = .ok (.isub, 1) := by decide +kernel
theorem dX3_typeBefore_49 : decode cX3_typeBefore 49 = .ok (.imul, 1) := by decide +kernel
theorem dX3_typeBefore_50 : decode cX3_typeBefore 50 = .ok (.ishr, 1) := by decide +kernel
theorem dX3_typeBefore_51 : decode cX3_typeBefore 51 = .ok (.iconst 3, 1) := by decide +kernel
theorem dX3_typeBefore_52 : decode cX3_typeBefore 52 = .ok (.iand, 1) := by decide +kernel
theorem dX3_typeBefore_53 : decode cX3_typeBefore 53 = .ok (.ireturn, 1) := by decide +kernel
theorem dX3_typeBefore_54 : decode cX3_typeBefore 54 = .ok (.iload_n 2, 1) := by decide +kernel
theorem dX3_typeBefore_55 : decode cX3_typeBefore 55 = .ok (.bipush 12, 2) := by decide +kernel
theorem dX3_typeBefore_57 : decode cX3_typeBefore 57 = .ok (.isub, 1) := by decide +kernel
theorem dX3_typeBefore_58 : decode cX3_typeBefore 58 = .ok (.iconst 1, 1) := by decide +kernel
theorem dX3_typeBefore_59 : decode cX3_typeBefore 59 = .ok (.isub, 1) := by decide +kernel
theorem dX3_typeBefore_60 : decode cX3_typeBefore 60 = .ok (.istore 4, 2) := by decide +kernel
theorem dX3_typeBefore_62 : decode cX3_typeBefore 62 = .ok (.iload_n 2, 1) := by decide +kernel
theorem dX3_typeBefore_63 : decode cX3_typeBefore 63 = .ok (.bipush 12, 2) := by decide +kernel
theorem dX3_typeBefore_65 : decode cX3_typeBefore 65 = .ok (.if_icmp .le 25, 3) := by decide +kernel
theorem dX3_typeBefore_68 : decode cX3_typeBefore 68 = .ok (.iload 4, 2) := by decide +kernel
theorem dX3_typeBefore_70 : decode cX3_typeBefore 70 = .ok (.iload_n 3, 1) := by decide +kernel
theorem dX3_typeBefore_71 : decode cX3_typeBefore 71 = .ok (.if_icmp .ge 19, 3) := by decide +kernel
theorem dX3_typeBefore_74 : decode cX3_typeBefore 74 = .ok (.aload_n 0, 1) := by decide +kernel
theorem dX3_typeBefore_75 : decode cX3_typeBefore 75 = .ok (.getfield 18, 3) := by decide +kernel
theorem dX3_typeBefore_78 : decode cX3_typeBefore 78 = .ok (.iload_n 1, 1) := by decide +kernel
theorem dX3_typeBefore_79 : decode cX3_typeBefore 79 = .ok (.iaload, 1) := by decide +kernel
theorem dX3_typeBefore_80 : decode cX3_typeBefore 80 = .ok (.iconst 2, 1) := by decide +kernel
theorem dX3_typeBefore_81 : decode cX3_typeBefore 81 = .ok (.iload 4, 2) := by decide +kernel
theorem dX3_typeBefore_83 : decode cX3_typeBefore 83 = .ok (.imul, 1) := by decide +kernel
theorem dX3_typeBefore_84 : decode cX3_typeBefore 84 = .ok (.ishr, 1) := by decide +kernel
theorem dX3_typeBefore_85 : decode cX3_typeBefore 85 = .ok (.iconst 3, 1) := by decide +kernel
theorem dX3_typeBefore_86 : decode cX3_typeBefore 86 = .ok (.iand, 1) := by decide +kernel
theorem dX3_typeBefore_87 : decode cX3_typeBefore 87 = .ok (.goto 4, 3) := by decide +kernel
theorem dX3_typeBefore_90 : decode cX3_typeBefore 90 = .ok (.iconst (-1), 1) := by decide +kernel
theorem dX3_typeBefore_91 : decode cX3_typeBefore 91 = .ok (.ireturn, 1) := by decide +kernel
theorem dX4_init_0 : decode cX4_init 0 = .ok (.aload_n 0, 1) := by decide +kernel
theorem dX4_init_1 : decode cX4_init 1 = .ok (.invokespecial 3, 3) := by decide +kernel
theorem dX4_init_4 : decode cX4_init 4 = .ok (.aload_n 0, 1) := by decide +kernel
theorem dX4_init_5 : decode cX4_init 5 = .ok (.bipush 24, 2) := by decide +kernel
theorem dX4_init_7 : decode cX4_init 7 = .ok (.newarray .int, 2) := by decide +kernel
theorem dX4_init_9 : decode cX4_init 9 = .ok (.putfield 9, 3) := by decide +kernel
theorem dX4_init_12 : decode cX4_init 12 = .ok (.aload_n 0, 1) := by decide +kernel
theorem dX4_init_13 : decode cX4_init 13 = .ok (.bipush 24, 2) := by decide +kernel
theorem dX4_init_15 : decode cX4_init 15 = .ok (.newarray .int, 2) := by decide +kernel
theorem dX4_init_17 : decode cX4_init 17 = .ok (.putfield 15, 3) := by decide +kernel
theorem dX4_init_20 : decode cX4_init 20 = .ok (.aload_n 0, 1) := by decide +kernel
theorem dX4_init_21 : decode cX4_init 21 = .ok (.bipush 24, 2) := by decide +kernel
theorem dX4_init_23 : decode cX4_init 23 = .ok (.newarray .int, 2) := by decide +kernel
theorem dX4_init_25 : decode cX4_init 25 = .ok (.putfield 18, 3) := by decide +kernel
theorem dX4_init_28 : decode cX4_init 28 = .ok (.aload_n 0, 1) := by decide +kernel
theorem dX4_init_29 : decode cX4_init 29 = .ok (.bipush 24, 2) := by decide +kernel
theorem dX4_init_31 : decode cX4_init 31 = .ok (.newarray .int, 2) := by decide +kernel
theorem dX4_init_33 : decode cX4_init 33 = .ok (.putfield 21, 3) := by decide +kernel
theorem dX4_init_36 : decode cX4_init 36 = .ok (.aload_n 0, 1) := by decide +kernel
theorem dX4_init_37 : decode cX4_init 37 = .ok (.bipush 24, 2) := by decide +kernel
theorem dX4_init_39 : decode cX4_init 39 = .ok (.newarray .int, 2) := by decide +kernel
theorem dX4_init_41 : decode cX4_init 41 = .ok (.putfield 24, 3) := by decide +kernel
theorem dX4_init_44 : decode cX4_init 44 = .ok (.aload_n 0, 1) := by decide +kernel
theorem dX4_init_45 : decode cX4_init 45 = .ok (.iconst 0, 1) := by decide +kernel
theorem dX4_init_46 : decode cX4_init 46 = .ok (.putfield 27, 3) := by decide +kernel
theorem dX4_init_49 : decode cX4_init 49 = .ok (.return_, 1) := by decide +kernel
theorem dX4_add_0 : decode cX4_add 0 = .ok (.aload_n 0, 1) := by decide +kernel
theorem dX4_add_1 : decode cX4_add 1 = .ok (.getfield 27, 3) := by decide +kernel
theorem dX4_add_4 : decode cX4_add 4 = .ok (.ifCond .lt 12, 3) := by decide +kernel
theorem dX4_add_7 : decode cX4_add 7 = .ok (.aload_n 0, 1) := by decide +kernel
theorem dX4_add_8 : decode cX4_add 8 = .ok (.getfield 27, 3) := by decide +kernel
theorem dX4_add_11 : decode cX4_add 11 = .ok (.bipush 24, 2) := by decide +kernel
theorem dX4_add_13 : decode cX4_add 13 = .ok (.if_icmp .lt 6, 3) := by decide +kernel
theorem dX4_add_16 : decode cX4_add 16 = .ok (.bipush (-3), 2) := by decide +kernel
theorem dX4_add_18 : decode cX4_add 18 = .ok (.ireturn, 1) := by decide +kernel
theorem dX4_add_19 : decode cX4_add 19 = .ok (.aload_n 0, 1) := by decide +kernel
theorem dX4_add_20 : decode cX4_add 20 = .ok (.getfield 9, 3) := by decide +kernel
theorem dX4_add_23 : decode cX4_add 23 = .ok (.aload_n 0, 1) := by decide +kernel
theorem dX4_add_24 : decode cX4_add 24 = .ok (.getfield 27, 3) := by decide +kernel
theorem dX4_add_27 : decode cX4_add 27 = .ok (.iload_n 1, 1) := by decide +kernel
theorem dX4_add_28 : decode cX4_add 28 = .ok (.iastore, 1) := by decide +kernel
theorem dX4_add_29 : decode cX4_add 29 = .ok (.aload_n 0, 1) := by decide +kernel
theorem dX4_add_30 : decode cX4_add 30 = .ok (.getfield 15, 3) := by decide +kernel
theorem dX4_add_33 : decode cX4_add 33 = .ok (.aload_n 0, 1) := by decide +kernel
theorem dX4_add_34 : decode cX4_add 34 = .ok (.getfield 27, 3) := by decide +kernel
theorem dX4_add_37 : decode cX4_add 37 = .ok (.iload_n 2, 1) := by decide +kernel
theorem dX4_add_38 : decode cX4_add 38 = .ok (.iastore, 1) := by decide +kernel
theorem dX4_add_39 : decode cX4_add 39 = .ok (.aload_n 0, 1) := by decide +kernel
theorem dX4_add_40 : decode cX4_add 40 = .ok (.getfield 18, 3) := by decide +kernel
theorem dX4_add_43 : decode cX4_add 43 = .ok (.aload_n 0, 1) := by decide +kernel
theorem dX4_add_44 : decode cX4_add 44 = .ok (.getfield 27, 3) := by decide +kernel
theorem dX4_add_47 : decode cX4_add 47 = .ok (.iload_n 3, 1) := by decide +kernel
theorem dX4_add_48 : decode cX4_add 48 = .ok (.iastore, 1) := by decide +kernel
theorem dX4_add_49 : decode cX4_add 49 = .ok (.aload_n 0, 1) := by decide +kernel
theorem dX4_add_50 : decode cX4_add 50 = .ok (.getfield 21, 3) := by decide +kernel
theorem dX4_add_53 : decode cX4_add 53 = .ok (.aload_n 0, 1) := by decide +kernel
theorem dX4_add_54 : decode cX4_add 54 = .ok (.getfield 27, 3) := by decide +kernel
theorem dX4_add_57 : decode cX4_add 57 = .ok (.iload 4, 2) := by decide +kernel
theorem dX4_add_59 : decode cX4_add 59 = .ok (.iastore, 1) := by decide +kernel
theorem dX4_add_60 : decode cX4_add 60 = .ok (.aload_n 0, 1) := by decide +kernel
theorem dX4_add_61 : decode cX4_add 61 = .ok (.getfield 24, 3) := by decide +kernel
theorem dX4_add_64 : decode cX4_add 64 = .ok (.aload_n 0, 1) := by decide +kernel
theorem dX4_add_65 : decode cX4_add 65 = .ok (.getfield 27, 3) := by decide +kernel
theorem dX4_add_68 : decode cX4_add 68 = .ok (.iload 5, 2) := by decide +kernel
theorem dX4_add_70 : decode cX4_add 70 = .ok (.iastore, 1) := by decide +kernel
theorem dX4_add_71 : decode cX4_add 71 = .ok (.aload_n 0, 1) := by decide +kernel
theorem dX4_add_72 : decode cX4_add 72 = .ok (.dup, 1) := by decide +kernel
theorem dX4_add_73 : decode cX4_add 73 = .ok (.getfield 27, 3) := by decide +kernel
theorem dX4_add_76 : decode cX4_add 76 = .ok (.iconst 1, 1) := by decide +kernel
theorem dX4_add_77 : decode cX4_add 77 = .ok (.iadd, 1) := by decide +kernel
theorem dX4_add_78 : decode cX4_add 78 = .ok (.putfield 27, 3) := by decide +kernel
theorem dX4_add_81 : decode cX4_add 81 = .ok (.aload_n 0, 1) := by decide +kernel
theorem dX4_add_82 : decode cX4_add 82 = .ok (.getfield 27, 3) := by decide +kernel
theorem dX4_add_85 : decode cX4_add 85 = .ok (.iconst 1, 1) := by decide +kernel
theorem dX4_add_86 : decode cX4_add 86 = .ok (.isub, 1) := by decide +kernel
theorem dX4_add_87 : decode cX4_add 87 = .ok (.ireturn, 1) := by decide +kernel
theorem dX4_isAt_0 : decode cX4_isAt 0 = .ok (.iload_n 1, 1) := by decide +kernel
theorem dX4_isAt_1 : decode cX4_isAt 1 = .ok (.ifCond .lt 41, 3) := by decide +kernel
theorem dX4_isAt_4 : decode cX4_isAt 4 = .ok (.iload_n 1, 1) := by decide +kernel
theorem dX4_isAt_5 : decode cX4_isAt 5 = .ok (.aload_n 0, 1) := by decide +kernel
theorem dX4_isAt_6 : decode cX4_isAt 6 = .ok (.getfield 27, 3) := by decide +kernel
theorem dX4_isAt_9 : decode cX4_isAt 9 = .ok (.if_icmp .ge 33, 3) := by decide +kernel
theorem dX4_isAt_12 : decode cX4_isAt 12 = .ok (.iload_n 1, 1) := by decide +kernel
theorem dX4_isAt_13 : decode cX4_isAt 13 = .ok (.bipush 24, 2) := by decide +kernel
theorem dX4_isAt_15 : decode cX4_isAt 15 = .ok (.if_icmp .ge 27, 3) := by decide +kernel
theorem dX4_isAt_18 : decode cX4_isAt 18 = .ok (.aload_n 0, 1) := by decide +kernel
theorem dX4_isAt_19 : decode cX4_isAt 19 = .ok (.getfield 15, 3) := by decide +kernel
theorem dX4_isAt_22 : decode cX4_isAt 22 = .ok (.iload_n 1, 1) := by decide +kernel
theorem dX4_isAt_23 : decode cX4_isAt 23 = .ok (.iaload, 1) := by decide +kernel
theorem dX4_isAt_24 : decode cX4_isAt 24 = .ok (.iload_n 2, 1) := by decide +kernel
theorem dX4_isAt_25 : decode cX4_isAt 25 = .ok (.if_icmp .ne 17, 3) := by decide +kernel
theorem dX4_isAt_28 : decode cX4_isAt 28 = .ok (.aload_n 0, 1) := by decide +kernel
theorem dX4_isAt_29 : decode cX4_isAt 29 = .ok (.getfield 18, 3) := by decide +kernel
theorem dX4_isAt_32 : decode cX4_isAt 32 = .ok (.iload_n 1, 1) := by decide +kernel
theorem dX4_isAt_33 : decode cX4_isAt 33 = .ok (.iaload, 1) := by decide +kernel
theorem dX4_isAt_34 : decode cX4_isAt 34 = .ok (.iload_n 3, 1) := by decide +kernel
theorem dX4_isAt_35 : decode cX4_isAt 35 = .ok (.if_icmp .ne 7, 3) := by decide +kernel
theorem dX4_isAt_38 : decode cX4_isAt 38 = .ok (.iconst 1, 1) := by decide +kernel
theorem dX4_isAt_39 : decode cX4_isAt 39 = .ok (.goto 4, 3) := by decide +kernel
theorem dX4_isAt_42 : decode cX4_isAt 42 = .ok (.iconst 0, 1) := by decide +kernel
theorem dX4_isAt_43 : decode cX4_isAt 43 = .ok (.ireturn, 1) := by decide +kernel
theorem dX4_sortOf_0 : decode cX4_sortOf 0 = .ok (.iload_n 1, 1) := by decide +kernel
theorem dX4_sortOf_1 : decode cX4_sortOf 1 = .ok (.ifCond .lt 18, 3) := by decide +kernel
theorem dX4_sortOf_4 : decode cX4_sortOf 4 = .ok (.iload_n 1, 1) := by decide +kernel
theorem dX4_sortOf_5 : decode cX4_sortOf 5 = .ok (.bipush 24, 2) := by decide +kernel
theorem dX4_sortOf_7 : decode cX4_sortOf 7 = .ok (.if_icmp .ge 12, 3) := by decide +kernel
theorem dX4_sortOf_10 : decode cX4_sortOf 10 = .ok (.aload_n 0, 1) := by decide +kernel
theorem dX4_sortOf_11 : decode cX4_sortOf 11 = .ok (.getfield 9, 3) := by decide +kernel
theorem dX4_sortOf_14 : decode cX4_sortOf 14 = .ok (.iload_n 1, 1) := by decide +kernel
theorem dX4_sortOf_15 : decode cX4_sortOf 15 = .ok (.iaload, 1) := by decide +kernel
theorem dX4_sortOf_16 : decode cX4_sortOf 16 = .ok (.goto 4, 3) := by decide +kernel
theorem dX4_sortOf_19 : decode cX4_sortOf 19 = .ok (.iconst (-1), 1) := by decide +kernel
theorem dX4_sortOf_20 : decode cX4_sortOf 20 = .ok (.ireturn, 1) := by decide +kernel
theorem dX4_xOf_0 : decode cX4_xOf 0 = .ok (.iload_n 1, 1) := by decide +kernel
theorem dX4_xOf_1 : decode cX4_xOf 1 = .ok (.ifCond .lt 18, 3) := by decide +kernel
theorem dX4_xOf_4 : decode cX4_xOf 4 = .ok (.iload_n 1, 1) := by decide +kernel
theorem dX4_xOf_5 : decode cX4_xOf 5 = .ok (.bipush 24, 2) := by decide +kernel
theorem dX4_xOf_7 : decode cX4_xOf 7 = .ok (.if_icmp .ge 12, 3) := by decide +kernel
theorem dX4_xOf_10 : decode cX4_xOf 10 = .ok (.aload_n 0, 1) := by decide +kernel
theorem dX4_xOf_11 : decode cX4_xOf 11 = .ok (.getfield 21, 3) := by decide +kernel
theorem dX4_xOf_14 : decode cX4_xOf 14 = .ok (.iload_n 1, 1) := by decide +kernel
theorem dX4_xOf_15 : decode cX4_xOf 15 = .ok (.iaload, 1) := by decide +kernel
theorem dX4_xOf_16 : decode cX4_xOf 16 = .ok (.goto 4, 3) := by decide +kernel
theorem dX4_xOf_19 : decode cX4_xOf 19 = .ok (.iconst 0, 1) := by decide +kernel
theorem dX4_xOf_20 : decode cX4_xOf 20 = .ok (.ireturn, 1) := by decide +kernel
theorem dX4_yOf_0 : decode cX4_yOf 0 = .ok (.iload_n 1, 1) := by decide +kernel
theorem dX4_yOf_1 : decode cX4_yOf 1 = .ok (.ifCond .lt 18, 3) := by decide +kernel
theorem dX4_yOf_4 : decode cX4_yOf 4 = .ok (.iload_n 1, 1) := by decide +kernel
theorem dX4_yOf_5 : decode cX4_yOf 5 = .ok (.bipush 24, 2) := by decide +kernel
theorem dX4_yOf_7 : decode cX4_yOf 7 = .ok (.if_icmp .ge 12, 3) := by decide +kernel
theorem dX4_yOf_10 : decode cX4_yOf 10 = .ok (.aload_n 0, 1) := by decide +kernel
theorem dX4_yOf_11 : decode cX4_yOf 11 = .ok (.getfield 24, 3) := by decide +kernel
theorem dX4_yOf_14 : decode cX4_yOf 14 = .ok (.iload_n 1, 1) := by decide +kernel
theorem dX4_yOf_15 : decode cX4_yOf 15 = .ok (.iaload, 1) := by decide +kernel
theorem dX4_yOf_16 : decode cX4_yOf 16 = .ok (.goto 4, 3) := by decide +kernel
theorem dX4_yOf_19 : decode cX4_yOf 19 = .ok (.iconst 0, 1) := by decide +kernel
theorem dX4_yOf_20 : decode cX4_yOf 20 = .ok (.ireturn, 1) := by decide +kernel
theorem dX5_init_0 : decode cX5_init 0 = .ok (.aload_n 0, 1) := by decide +kernel
theorem dX5_init_1 : decode cX5_init 1 = .ok (.invokespecial 3, 3) := by decide +kernel
theorem dX5_init_4 : decode cX5_init 4 = .ok (.aload_n 0, 1) := by decide +kernel
theorem dX5_init_5 : decode cX5_init 5 = .ok (.iconst 0, 1) := by decide +kernel
theorem dX5_init_6 : decode cX5_init 6 = .ok (.newarray .int, 2) := by decide +kernel
theorem dX5_init_8 : decode cX5_init 8 = .ok (.putfield 9, 3) := by decide +kernel
theorem dX5_init_11 : decode cX5_init 11 = .ok (.aload_n 0, 1) := by decide +kernel
theorem dX5_init_12 : decode cX5_init 12 = .ok (.iconst 0, 1) := by decide +kernel
theorem dX5_init_13 : decode cX5_init 13 = .ok (.putfield 15, 3) := by decide +kernel
theorem dX5_init_16 : decode cX5_init 16 = .ok (.return_, 1) := by decide +kernel
theorem dX5_formFault_0 : decode cX5_formFault 0 = .ok (.aload_n 0, 1) := by decide +kernel
theorem dX5_formFault_1 : decode cX5_formFault 1 = .ok (.aload_n 1, 1) := by decide +kernel
theorem dX5_formFault_2 : decode cX5_formFault 2 = .ok (.putfield 9, 3) := by decide +kernel
theorem dX5_formFault_5 : decode cX5_formFault 5 = .ok (.aload_n 0, 1) := by decide +kernel
theorem dX5_formFault_6 : decode cX5_formFault 6 = .ok (.iload_n 2, 1) := by decide +kernel
theorem dX5_formFault_7 : decode cX5_formFault 7 = .ok (.aload_n 1, 1) := by decide +kernel
theorem dX5_formFault_8 : decode cX5_formFault 8 = .ok (.arraylength, 1) := by decide +kernel
theorem dX5_formFault_9 : decode cX5_formFault 9 = .ok (.invokestatic 19, 3) := by decide +kernel
theorem dX5_formFault_12 : decode cX5_formFault 12 = .ok (.putfield 15, 3) := by decide +kernel
theorem dX5_formFault_15 : decode cX5_formFault 15 = .ok (.aload_n 0, 1) := by decide +kernel
theorem dX5_formFault_16 : decode cX5_formFault 16 = .ok (.aload_n 3, 1) := by decide +kernel
theorem dX5_formFault_17 : decode cX5_formFault 17 = .ok (.invokevirtual 25, 3) := by decide +kernel
theorem dX5_formFault_20 : decode cX5_formFault 20 = .ok (.istore 4, 2) := by decide +kernel
theorem dX5_formFault_22 : decode cX5_formFault 22 = .ok (.iload 4, 2) := by decide +kernel
theorem dX5_formFault_24 : decode cX5_formFault 24 = .ok (.iconst (-1), 1) := by decide +kernel
theorem dX5_formFault_25 : decode cX5_formFault 25 = .ok (.if_icmp .ne 10, 3) := by decide +kernel
theorem dX5_formFault_28 : decode cX5_formFault 28 = .ok (.aload_n 0, 1) := by decide +kernel
theorem dX5_formFault_29 : decode cX5_formFault 29 = .ok (.aload_n 3, 1) := by decide +kernel
theorem dX5_formFault_30 : decode cX5_formFault 30 = .ok (.invokevirtual 29, 3) := by decide +kernel
theorem dX5_formFault_33 : decode cX5_formFault 33 = .ok (.istore 4, 2) := by decide +kernel
theorem dX5_formFault_35 : decode cX5_formFault 35 = .ok (.iload 4, 2) := by decide +kernel
theorem dX5_formFault_37 : decode cX5_formFault 37 = .ok (.iconst (-1), 1) := by decide +kernel
theorem dX5_formFault_38 : decode cX5_formFault 38 = .ok (.if_icmp .ne 10, 3) := by decide +kernel
theorem dX5_formFault_41 : decode cX5_formFault 41 = .ok (.aload_n 0, 1) := by decide +kernel
theorem dX5_formFault_42 : decode cX5_formFault 42 = .ok (.aload_n 3, 1) := by decide +kernel
theorem dX5_formFault_43 : decode cX5_formFault 43 = .ok (.invokevirtual 32, 3) := by decide +kernel
theorem dX5_formFault_46 : decode cX5_formFault 46 = .ok (.istore 4, 2) := by decide +kernel
theorem dX5_formFault_48 : decode cX5_formFault 48 = .ok (.iload 4, 2) := by decide +kernel
theorem dX5_formFault_50 : decode cX5_formFault 50 = .ok (.ireturn, 1) := by decide +kernel
theorem dX5_headFault_0 : decode cX5_headFault 0 = .ok (.aload_n 1, 1) := by decide +kernel
theorem dX5_headFault_1 : decode cX5_headFault 1 = .ok (.aload_n 0, 1) := by decide +kernel
theorem dX5_headFault_2 : decode cX5_headFault 2 = .ok (.getfield 9, 3) := by decide +kernel
theorem dX5_headFault_5 : decode cX5_headFault 5 = .ok (.iconst 0, 1) := by decide +kernel
theorem dX5_headFault_6 : decode cX5_headFault 6 = .ok (.invokestatic 35, 3) := by decide +kernel
theorem dX5_headFault_9 : decode cX5_headFault 9 = .ok (.putfield 39, 3) := by decide +kernel
theorem dX5_headFault_12 : decode cX5_headFault 12 = .ok (.aload_n 1, 1) := by decide +kernel
theorem dX5_headFault_13 : decode cX5_headFault 13 = .ok (.aload_n 0, 1) := by decide +kernel
theorem dX5_headFault_14 : decode cX5_headFault 14 = .ok (.getfield 9, 3) := by decide +kernel
theorem dX5_headFault_17 : decode cX5_headFault 17 = .ok (.iconst 1, 1) := by decide +kernel
theorem dX5_headFault_18 : decode cX5_headFault 18 = .ok (.invokestatic 35, 3) := by decide +kernel
theorem dX5_headFault_21 : decode cX5_headFault 21 = .ok (.putfield 44, 3) := by decide +kernel
theorem dX5_headFault_24 : decode cX5_headFault 24 = .ok (.aload_n 1, 1) := by decide +kernel
theorem dX5_headFault_25 : decode cX5_headFault 25 = .ok (.aload_n 0, 1) := by decide +kernel
theorem dX5_headFault_26 : decode cX5_headFault 26 = .ok (.getfield 9, 3) := by decide +kernel
theorem dX5_headFault_29 : decode cX5_headFault 29 = .ok (.iconst 2, 1) := by decide +kernel
theorem dX5_headFault_30 : decode cX5_headFault 30 = .ok (.invokestatic 35, 3) := by decide +kernel
theorem dX5_headFault_33 : decode cX5_headFault 33 = .ok (.bipush 8, 2) := by decide +kernel
theorem dX5_headFault_35 : decode cX5_headFault 35 = .ok (.ishl, 1) := by decide +kernel
theorem dX5_headFault_36 : decode cX5_headFault 36 = .ok (.aload_n 0, 1) := by decide +kernel
theorem dX5_headFault_37 : decode cX5_headFault 37 = .ok (.getfield 9, 3) := by decide +kernel
theorem dX5_headFault_40 : decode cX5_headFault 40 = .ok (.iconst 3, 1) := by decide +kernel
theorem dX5_headFault_41 : decode cX5_headFault 41 = .ok (.invokestatic 35, 3) := by decide +kernel
theorem dX5_headFault_44 : decode cX5_headFault 44 = .ok (.ior, 1) := by decide +kernel
theorem dX5_headFault_45 : decode cX5_headFault 45 = .ok (.putfield 47, 3) := by decide +kernel
theorem dX5_headFault_48 : decode cX5_headFault 48 = .ok (.aload_n 0, 1) := by decide +kernel
theorem dX5_headFault_49 : decode cX5_headFault 49 = .ok (.getfield 15, 3) := by decide +kernel
theorem dX5_headFault_52 : decode cX5_headFault 52 = .ok (.iconst 1, 1) := by decide +kernel
theorem dX5_headFault_53 : decode cX5_headFault 53 = .ok (.if_icmp .ge 8, 3) := by decide +kernel
theorem dX5_headFault_56 : decode cX5_headFault 56 = .ok (.aload_n 0, 1) := by decide +kernel
theorem dX5_headFault_57 : decode cX5_headFault 57 = .ok (.getfield 15, 3) := by decide +kernel
theorem dX5_headFault_60 : decode cX5_headFault 60 = .ok (.ireturn, 1) := by decide +kernel
theorem dX5_headFault_61 : decode cX5_headFault 61 = .ok (.aload_n 1, 1) := by decide +kernel
theorem dX5_headFault_62 : decode cX5_headFault 62 = .ok (.getfield 39, 3) := by decide +kernel
theorem dX5_headFault_65 : decode cX5_headFault 65 = .ok (.iconst 4, 1) := by decide +kernel
theorem dX5_headFault_66 : decode cX5_headFault 66 = .ok (.if_icmp .le 5, 3) := by decide +kernel
theorem dX5_headFault_69 : decode cX5_headFault 69 = .ok (.iconst 0, 1) := by decide +kernel
theorem dX5_headFault_70 : decode cX5_headFault 70 = .ok (.ireturn, 1) := by decide +kernel
theorem dX5_headFault_71 : decode cX5_headFault 71 = .ok (.aload_n 0, 1) := by decide +kernel
theorem dX5_headFault_72 : decode cX5_headFault 72 = .ok (.getfield 15, 3) := by decide +kernel
theorem dX5_headFault_75 : decode cX5_headFault 75 = .ok (.iconst 2, 1) := by decide +kernel
theorem dX5_headFault_76 : decode cX5_headFault 76 = .ok (.if_icmp .ge 8, 3) := by decide +kernel
theorem dX5_headFault_79 : decode cX5_headFault 79 = .ok (.aload_n 0, 1) := by decide +kernel
theorem dX5_headFault_80 : decode cX5_headFault 80 = .ok (.getfield 15, 3) := by decide +kernel
theorem dX5_headFault_83 : decode cX5_headFault 83 = .ok (.ireturn, 1) := by decide +kernel
theorem dX5_headFault_84 : decode cX5_headFault 84 = .ok (.aload_n 1, 1) := by decide +kernel
theorem dX5_headFault_85 : decode cX5_headFault 85 = .ok (.getfield 44, 3) := by decide +kernel
theorem dX5_headFault_88 : decode cX5_headFault 88 = .ok (.aload_n 1, 1) := by decide +kernel
theorem dX5_headFault_89 : decode cX5_headFault 89 = .ok (.getfield 39, 3) := by decide +kernel
theorem dX5_headFault_92 : decode cX5_headFault 92 = .ok (.if_icmp .lt 12, 3) := by decide +kernel
theorem dX5_headFault_95 : decode cX5_headFault 95 = .ok (.aload_n 1, 1) := by decide +kernel
theorem dX5_headFault_96 : decode cX5_headFault 96 = .ok (.getfield 44, 3) := by decide +kernel
theorem dX5_headFault_99 : decode cX5_headFault 99 = .ok (.bipush 12, 2) := by decide +kernel
theorem dX5_headFault_101 : decode cX5_headFault 101 = .ok (.if_icmp .le 5, 3) := by decide +kernel
theorem dX5_headFault_104 : decode cX5_headFault 104 = .ok (.iconst 1, 1) := by decide +kernel
theorem dX5_headFault_105 : decode cX5_headFault 105 = .ok (.ireturn, 1) := by decide +kernel
theorem dX5_headFault_106 : decode cX5_headFault 106 = .ok (.aload_n 0, 1) := by decide +kernel
theorem dX5_headFault_107 : decode cX5_headFault 107 = .ok (.getfield 15, 3) := by decide +kernel
theorem dX5_headFault_110 : decode cX5_headFault 110 = .ok (.iconst 4, 1) := by decide +kernel
theorem dX5_headFault_111 : decode cX5_headFault 111 = .ok (.if_icmp .ge 8, 3) := by decide +kernel
theorem dX5_headFault_114 : decode cX5_headFault 114 = .ok (.aload_n 0, 1) := by decide +kernel
theorem dX5_headFault_115 : decode cX5_headFault 115 = .ok (.getfield 15, 3) := by decide +kernel
theorem dX5_headFault_118 : decode cX5_headFault 118 = .ok (.ireturn, 1) := by decide +kernel
theorem dX5_headFault_119 : decode cX5_headFault 119 = .ok (.aload_n 1, 1) := by decide +kernel
theorem dX5_headFault_120 : decode cX5_headFault 120 = .ok (.getfield 47, 3) := by decide +kernel
theorem dX5_headFault_123 : decode cX5_headFault 123 = .ok (.iconst 1, 1) := by decide +kernel
theorem dX5_headFault_124 : decode cX5_headFault 124 = .ok (.if_icmp .lt 13, 3) := by decide +kernel
theorem dX5_headFault_127 : decode cX5_headFault 127 = .ok (.aload_n 1, 1) := by decide +kernel
theorem dX5_headFault_128 : decode cX5_headFault 128 = .ok (.getfield 47, 3) := by decide +kernel
theorem dX5_headFault_131 : decode cX5_headFault 131 = .ok (.sipush 400, 3) := by decide +kernel
theorem dX5_headFault_134 : decode cX5_headFault 134 = .ok (.if_icmp .le 7, 3) := by decide +kernel
theorem dX5_headFault_137 : decode cX5_headFault 137 = .ok (.iconst 2, 1) := by decide +kernel
theorem dX5_headFault_138 : decode cX5_headFault 138 = .ok (.goto 4, 3) := by decide +kernel
theorem dX5_headFault_141 : decode cX5_headFault 141 = .ok (.iconst (-1), 1) := by decide +kernel
theorem dX5_headFault_142 : decode cX5_headFault 142 = .ok (.ireturn, 1) := by decide +kernel
theorem dX5_codeFault_0 : decode cX5_codeFault 0 = .ok (.aload_n 1, 1) := by decide +kernel
theorem dX5_codeFault_1 : decode cX5_codeFault 1 = .ok (.getfield 50, 3) := by decide +kernel
theorem dX5_codeFault_4 : decode cX5_codeFault 4 = .ok (.iconst 0, 1) := by decide +kernel
theorem dX5_codeFault_5 : decode cX5_codeFault 5 = .ok (.invokestatic 53, 3) := by decide +kernel
theorem dX5_codeFault_8 : decode cX5_codeFault 8 = .ok (.iconst 0, 1) := by decide +kernel
theorem dX5_codeFault_9 : decode cX5_codeFault 9 = .ok (.istore_n 2, 1) := by decide +kernel
theorem dX5_codeFault_10 : decode cX5_codeFault 10 = .ok (.iconst 0, 1) := by decide +kernel
theorem dX5_codeFault_11 : decode cX5_codeFault 11 = .ok (.istore_n 3, 1) := by decide +kernel
theorem dX5_codeFault_12 : decode cX5_codeFault 12 = .ok (.iload_n 3, 1) := by decide +kernel
theorem dX5_codeFault_13 : decode cX5_codeFault 13 = .ok (.aload_n 1, 1) := by decide +kernel
theorem dX5_codeFault_14 : decode cX5_codeFault 14 = .ok (.getfield 47, 3) := by decide +kernel
theorem dX5_codeFault_17 : decode cX5_codeFault 17 = .ok (.if_icmp .ge 69, 3) := by decide +kernel
theorem dX5_codeFault_20 : decode cX5_codeFault 20 = .ok (.iload_n 3, 1) := by decide +kernel
theorem dX5_codeFault_21 : decode cX5_codeFault 21 = .ok (.iload_n 2, 1) := by decide +kernel
theorem dX5_codeFault_22 : decode cX5_codeFault 22 = .ok (.if_icmp .ne 42, 3) := by decide +kernel
theorem dX5_codeFault_25 : decode cX5_codeFault 25 = .ok (.aload_n 0, 1) := by decide +kernel
theorem dX5_codeFault_26 : decode cX5_codeFault 26 = .ok (.aload_n 1, 1) := by decide +kernel
theorem dX5_codeFault_27 : decode cX5_codeFault 27 = .ok (.iload_n 3, 1) := by decide +kernel
theorem dX5_codeFault_28 : decode cX5_codeFault 28 = .ok (.invokevirtual 59, 3) := by decide +kernel
theorem dX5_codeFault_31 : decode cX5_codeFault 31 = .ok (.istore 4, 2) := by decide +kernel
theorem dX5_codeFault_33 : decode cX5_codeFault 33 = .ok (.iload 4, 2) := by decide +kernel
theorem dX5_codeFault_35 : decode cX5_codeFault 35 = .ok (.iconst (-1), 1) := by decide +kernel
theorem dX5_codeFault_36 : decode cX5_codeFault 36 = .ok (.if_icmp .eq 6, 3) := by decide +kernel
theorem dX5_codeFault_39 : decode cX5_codeFault 39 = .ok (.iload 4, 2) := by decide +kernel
theorem dX5_codeFault_41 : decode cX5_codeFault 41 = .ok (.ireturn, 1) := by decide +kernel
theorem dX5_codeFault_42 : decode cX5_codeFault 42 = .ok (.iload_n 3, 1) := by decide +kernel
theorem dX5_codeFault_43 : decode cX5_codeFault 43 = .ok (.aload_n 0, 1) := by decide +kernel
theorem dX5_codeFault_44 : decode cX5_codeFault 44 = .ok (.getfield 9, 3) := by decide +kernel
theorem dX5_codeFault_47 : decode cX5_codeFault 47 = .ok (.iconst 4, 1) := by decide +kernel
theorem dX5_codeFault_48 : decode cX5_codeFault 48 = .ok (.iload_n 3, 1) := by decide +kernel
theorem dX5_codeFault_49 : decode cX5_codeFault 49 = .ok (.iadd, 1) := by decide +kernel
theorem dX5_codeFault_50 : decode cX5_codeFault 50 = .ok (.invokestatic 63, 3) := by decide +kernel
theorem dX5_codeFault_53 : decode cX5_codeFault 53 = .ok (.iadd, 1) := by decide +kernel
theorem dX5_codeFault_54 : decode cX5_codeFault 54 = .ok (.istore_n 2, 1) := by decide +kernel
theorem dX5_codeFault_55 : decode cX5_codeFault 55 = .ok (.aload_n 1, 1) := by decide +kernel
theorem dX5_codeFault_56 : decode cX5_codeFault 56 = .ok (.getfield 50, 3) := by decide +kernel
theorem dX5_codeFault_59 : decode cX5_codeFault 59 = .ok (.iload_n 3, 1) := by decide +kernel
theorem dX5_codeFault_60 : decode cX5_codeFault 60 = .ok (.iload_n 2, 1) := by decide +kernel
theorem dX5_codeFault_61 : decode cX5_codeFault 61 = .ok (.iload_n 3, 1) := by decide +kernel
theorem dX5_codeFault_62 : decode cX5_codeFault 62 = .ok (.isub, 1) := by decide +kernel
theorem dX5_codeFault_63 : decode cX5_codeFault 63 = .ok (.iastore, 1) := by decide +kernel
theorem dX5_codeFault_64 : decode cX5_codeFault 64 = .ok (.aload_n 1, 1) := by decide +kernel
theorem dX5_codeFault_65 : decode cX5_codeFault 65 = .ok (.getfield 66, 3) := by decide +kernel
theorem dX5_codeFault_68 : decode cX5_codeFault 68 = .ok (.iload_n 3, 1) := by decide +kernel
theorem dX5_codeFault_69 : decode cX5_codeFault 69 = .ok (.aload_n 0, 1) := by decide +kernel
theorem dX5_codeFault_70 : decode cX5_codeFault 70 = .ok (.getfield 9, 3) := by decide +kernel
theorem dX5_codeFault_73 : decode cX5_codeFault 73 = .ok (.iconst 4, 1) := by decide +kernel
theorem dX5_codeFault_74 : decode cX5_codeFault 74 = .ok (.iload_n 3, 1) := by decide +kernel
theorem dX5_codeFault_75 : decode cX5_codeFault 75 = .ok (.iadd, 1) := by decide +kernel
theorem dX5_codeFault_76 : decode cX5_codeFault 76 = .ok (.invokestatic 35, 3) := by decide +kernel
theorem dX5_codeFault_79 : decode cX5_codeFault 79 = .ok (.iastore, 1) := by decide +kernel
theorem dX5_codeFault_80 : decode cX5_codeFault 80 = .ok (.iinc 3 1, 3) := by decide +kernel
theorem dX5_codeFault_83 : decode cX5_codeFault 83 = .ok (.goto (-71), 3) := by decide +kernel
theorem dX5_codeFault_86 : decode cX5_codeFault 86 = .ok (.iconst (-1), 1) := by decide +kernel
theorem dX5_codeFault_87 : decode cX5_codeFault 87 = .ok (.ireturn, 1) := by decide +kernel
theorem dX5_instructionFault_0 : decode cX5_instructionFault 0 = .ok (.iconst 4, 1) := by decide +kernel
theorem dX5_instructionFault_1 : decode cX5_instructionFault 1 = .ok (.iload_n 2, 1) := by decide +kernel
theorem dX5_instructionFault_2 : decode cX5_instructionFault 2 = .ok (.iadd, 1) := by decide +kernel
theorem dX5_instructionFault_3 : decode cX5_instructionFault 3 = .ok (.istore_n 3, 1) := by decide +kernel
theorem dX5_instructionFault_4 : decode cX5_instructionFault 4 = .ok (.iload_n 3, 1) := by decide +kernel
theorem dX5_instructionFault_5 : decode cX5_instructionFault 5 = .ok (.aload_n 0, 1) := by decide +kernel
theorem dX5_instructionFault_6 : decode cX5_instructionFault 6 = .ok (.getfield 15, 3) := by decide +kernel
theorem dX5_instructionFault_9 : decode cX5_instructionFault 9 = .ok (.if_icmp .lt 8, 3) := by decide +kernel
theorem dX5_instructionFault_12 : decode cX5_instructionFault 12 = .ok (.aload_n 0, 1) := by decide +kernel
theorem dX5_instructionFault_13 : decode cX5_instructionFault 13 = .ok (.getfield 15, 3) := by decide +kernel
theorem dX5_instructionFault_16 : decode cX5_instructionFault 16 = .ok (.ireturn, 1) := by decide +kernel
theorem dX5_instructionFault_17 : decode cX5_instructionFault 17 = .ok (.aload_n 0, 1) := by decide +kernel
theorem dX5_instructionFault_18 : decode cX5_instructionFault 18 = .ok (.getfield 9, 3) := by decide +kernel
theorem dX5_instructionFault_21 : decode cX5_instructionFault 21 = .ok (.iload_n 3, 1) := by decide +kernel
theorem dX5_instructionFault_22 : decode cX5_instructionFault 22 = .ok (.invokestatic 35, 3) := by decide +kernel
theorem dX5_instructionFault_25 : decode cX5_instructionFault 25 = .ok (.istore 4, 2) := by decide +kernel
theorem dX5_instructionFault_27 : decode cX5_instructionFault 27 = .ok (.iload 4, 2) := by decide +kernel
theorem dX5_instructionFault_29 : decode cX5_instructionFault 29 = .ok (.invokestatic 69, 3) := by decide +kernel
theorem dX5_instructionFault_32 : decode cX5_instructionFault 32 = .ok (.ifCond .ne 5, 3) := by decide +kernel
theorem dX5_instructionFault_35 : decode cX5_instructionFault 35 = .ok (.iload_n 3, 1) := by decide +kernel
theorem dX5_instructionFault_36 : decode cX5_instructionFault 36 = .ok (.ireturn, 1) := by decide +kernel
theorem dX5_instructionFault_37 : decode cX5_instructionFault 37 = .ok (.iload 4, 2) := by decide +kernel
theorem dX5_instructionFault_39 : decode cX5_instructionFault 39 = .ok (.bipush 33, 2) := by decide +kernel
theorem dX5_instructionFault_41 : decode cX5_instructionFault 41 = .ok (.if_icmp .ne 10, 3) := by decide +kernel
theorem dX5_instructionFault_44 : decode cX5_instructionFault 44 = .ok (.aload_n 0, 1) := by decide +kernel
theorem dX5_instructionFault_45 : decode cX5_instructionFault 45 = .ok (.aload_n 1, 1) := by decide +kernel
theorem dX5_instructionFault_46 : decode cX5_instructionFault 46 = .ok (.iload_n 2, 1) := by decide +kernel
theorem dX5_instructionFault_47 : decode cX5_instructionFault 47 = .ok (.invokevirtual 73, 3) := by decide +kernel
theorem dX5_instructionFault_50 : decode cX5_instructionFault 50 = .ok (.ireturn, 1) := by decide +kernel
theorem dX5_instructionFault_51 : decode cX5_instructionFault 51 = .ok (.iload 4, 2) := by decide +kernel
theorem dX5_instructionFault_53 : decode cX5_instructionFault 53 = .ok (.invokestatic 76, 3) := by decide +kernel
theorem dX5_instructionFault_56 : decode cX5_instructionFault 56 = .ok (.istore 5, 2) := by decide +kernel
theorem dX5_instructionFault_58 : decode cX5_instructionFault 58 = .ok (.iload_n 2, 1) := by decide +kernel
theorem dX5_instructionFault_59 : decode cX5_instructionFault 59 = .ok (.iload 5, 2) := by decide +kernel
theorem dX5_instructionFault_61 : decode cX5_instructionFault 61 = .ok (.iadd, 1) := by decide +kernel
theorem dX5_instructionFault_62 : decode cX5_instructionFault 62 = .ok (.aload_n 1, 1) := by decide +kernel
theorem dX5_instructionFault_63 : decode cX5_instructionFault 63 = .ok (.getfield 47, 3) := by decide +kernel
theorem dX5_instructionFault_66 : decode cX5_instructionFault 66 = .ok (.if_icmp .le 5, 3) := by decide +kernel
theorem dX5_instructionFault_69 : decode cX5_instructionFault 69 = .ok (.iload_n 3, 1) := by decide +kernel
theorem dX5_instructionFault_70 : decode cX5_instructionFault 70 = .ok (.ireturn, 1) := by decide +kernel
theorem dX5_instructionFault_71 : decode cX5_instructionFault 71 = .ok (.iload 5, 2) := by decide +kernel
theorem dX5_instructionFault_73 : decode cX5_instructionFault 73 = .ok (.iconst 1, 1) := by decide +kernel
theorem dX5_instructionFault_74 : decode cX5_instructionFault 74 = .ok (.if_icmp .le 36, 3) := by decide +kernel
theorem dX5_instructionFault_77 : decode cX5_instructionFault 77 = .ok (.iload_n 3, 1) := by decide +kernel
theorem dX5_instructionFault_78 : decode cX5_instructionFault 78 = .ok (.iconst 1, 1) := by decide +kernel
theorem dX5_instructionFault_79 : decode cX5_instructionFault 79 = .ok (.iadd, 1) := by decide +kernel
theorem dX5_instructionFault_80 : decode cX5_instructionFault 80 = .ok (.aload_n 0, 1) := by decide +kernel
theorem dX5_instructionFault_81 : decode cX5_instructionFault 81 = .ok (.getfield 15, 3) := by decide +kernel
theorem dX5_instructionFault_84 : decode cX5_instructionFault 84 = .ok (.if_icmp .ge 26, 3) := by decide +kernel
theorem dX5_instructionFault_87 : decode cX5_instructionFault 87 = .ok (.aload_n 1, 1) := by decide +kernel
theorem dX5_instructionFault_88 : decode cX5_instructionFault 88 = .ok (.iload 4, 2) := by decide +kernel
theorem dX5_instructionFault_90 : decode cX5_instructionFault 90 = .ok (.aload_n 0, 1) := by decide +kernel
theorem dX5_instructionFault_91 : decode cX5_instructionFault 91 = .ok (.getfield 9, 3) := by decide +kernel
theorem dX5_instructionFault_94 : decode cX5_instructionFault 94 = .ok (.iload_n 3, 1) := by decide +kernel
theorem dX5_instructionFault_95 : decode cX5_instructionFault 95 = .ok (.iconst 1, 1) := by decide +kernel
theorem dX5_instructionFault_96 : decode cX5_instructionFault 96 = .ok (.iadd, 1) := by decide +kernel
theorem dX5_instructionFault_97 : decode cX5_instructionFault 97 = .ok (.invokestatic 35, 3) := by decide +kernel
theorem dX5_instructionFault_100 : decode cX5_instructionFault 100 = .ok (.invokestatic 80, 3) := by decide +kernel
theorem dX5_instructionFault_103 : decode cX5_instructionFault 103 = .ok (.ifCond .ne 7, 3) := by decide +kernel
theorem dX5_instructionFault_106 : decode cX5_instructionFault 106 = .ok (.iload_n 3, 1) := by decide +kernel
theorem dX5_instructionFault_107 : decode cX5_instructionFault 107 = .ok (.iconst 1, 1) := by decide +kernel
theorem dX5_instructionFault_108 : decode cX5_instructionFault 108 = .ok (.iadd, 1) := by decide +kernel
theorem dX5_instructionFault_109 : decode cX5_instructionFault 109 = .ok (.ireturn, 1) := by decide +kernel
theorem dX5_instructionFault_110 : decode cX5_instructionFault 110 = .ok (.iload_n 3, 1) := by decide +kernel
theorem dX5_instructionFault_111 : decode cX5_instructionFault 111 = .ok (.iload 5, 2) := by decide +kernel
theorem dX5_instructionFault_113 : decode cX5_instructionFault 113 = .ok (.iadd, 1) := by decide +kernel
theorem dX5_instructionFault_114 : decode cX5_instructionFault 114 = .ok (.aload_n 0, 1) := by decide +kernel
theorem dX5_instructionFault_115 : decode cX5_instructionFault 115 = .ok (.getfield 15, 3) := by decide +kernel
theorem dX5_instructionFault_118 : decode cX5_instructionFault 118 = .ok (.if_icmp .le 10, 3) := by decide +kernel
theorem dX5_instructionFault_121 : decode cX5_instructionFault 121 = .ok (.aload_n 0, 1) := by decide +kernel
theorem dX5_instructionFault_122 : decode cX5_instructionFault 122 = .ok (.getfield 15, 3) := by decide +kernel
theorem dX5_instructionFault_125 : decode cX5_instructionFault 125 = .ok (.goto 4, 3) := by decide +kernel
theorem dX5_instructionFault_128 : decode cX5_instructionFault 128 = .ok (.iconst (-1), 1) := by decide +kernel
theorem dX5_instructionFault_129 : decode cX5_instructionFault 129 = .ok (.ireturn, 1) := by decide +kernel
theorem dX5_tableFault_0 : decode cX5_tableFault 0 = .ok (.iconst 4, 1) := by decide +kernel
theorem dX5_tableFault_1 : decode cX5_tableFault 1 = .ok (.iload_n 2, 1) := by decide +kernel
theorem dX5_tableFault_2 : decode cX5_tableFault 2 = .ok (.iadd, 1) := by decide +kernel
theorem dX5_tableFault_3 : decode cX5_tableFault 3 = .ok (.istore_n 3, 1) := by decide +kernel
theorem dX5_tableFault_4 : decode cX5_tableFault 4 = .ok (.iload_n 2, 1) := by decide +kernel
theorem dX5_tableFault_5 : decode cX5_tableFault 5 = .ok (.iconst 1, 1) := by decide +kernel
theorem dX5_tableFault_6 : decode cX5_tableFault 6 = .ok (.iadd, 1) := by decide +kernel
theorem dX5_tableFault_7 : decode cX5_tableFault 7 = .ok (.aload_n 1, 1) := by decide +kernel
theorem dX5_tableFault_8 : decode cX5_tableFault 8 = .ok (.getfield 47, 3) := by decide +kernel
theorem dX5_tableFault_11 : decode cX5_tableFault 11 = .ok (.if_icmp .lt 5, 3) := by decide +kernel
theorem dX5_tableFault_14 : decode cX5_tableFault 14 = .ok (.iload_n 3, 1) := by decide +kernel
theorem dX5_tableFault_15 : decode cX5_tableFault 15 = .ok (.ireturn, 1) := by decide +kernel
theorem dX5_tableFault_16 : decode cX5_tableFault 16 = .ok (.iload_n 3, 1) := by decide +kernel
theorem dX5_tableFault_17 : decode cX5_tableFault 17 = .ok (.iconst 1, 1) := by decide +kernel
theorem dX5_tableFault_18 : decode cX5_tableFault 18 = .ok (.iadd, 1) := by decide +kernel
theorem dX5_tableFault_19 : decode cX5_tableFault 19 = .ok (.aload_n 0, 1) := by decide +kernel
theorem dX5_tableFault_20 : decode cX5_tableFault 20 = .ok (.getfield 15, 3) := by decide +kernel
theorem dX5_tableFault_23 : decode cX5_tableFault 23 = .ok (.if_icmp .lt 8, 3) := by decide +kernel
theorem dX5_tableFault_26 : decode cX5_tableFault 26 = .ok (.aload_n 0, 1) := by decide +kernel
theorem dX5_tableFault_27 : decode cX5_tableFault 27 = .ok (.getfield 15, 3) := by decide +kernel
theorem dX5_tableFault_30 : decode cX5_tableFault 30 = .ok (.ireturn, 1) := by decide +kernel
theorem dX5_tableFault_31 : decode cX5_tableFault 31 = .ok (.aload_n 0, 1) := by decide +kernel
theorem dX5_tableFault_32 : decode cX5_tableFault 32 = .ok (.getfield 9, 3) := by decide +kernel
theorem dX5_tableFault_35 : decode cX5_tableFault 35 = .ok (.iload_n 3, 1) := by decide +kernel
theorem dX5_tableFault_36 : decode cX5_tableFault 36 = .ok (.iconst 1, 1) := by decide +kernel
theorem dX5_tableFault_37 : decode cX5_tableFault 37 = .ok (.iadd, 1) := by decide +kernel
theorem dX5_tableFault_38 : decode cX5_tableFault 38 = .ok (.invokestatic 35, 3) := by decide +kernel
theorem dX5_tableFault_41 : decode cX5_tableFault 41 = .ok (.istore 4, 2) := by decide +kernel
theorem dX5_tableFault_43 : decode cX5_tableFault 43 = .ok (.iload 4, 2) := by decide +kernel
theorem dX5_tableFault_45 : decode cX5_tableFault 45 = .ok (.iconst 1, 1) := by decide +kernel
theorem dX5_tableFault_46 : decode cX5_tableFault 46 = .ok (.if_icmp .lt 10, 3) := by decide +kernel
theorem dX5_tableFault_49 : decode cX5_tableFault 49 = .ok (.iload 4, 2) := by decide +kernel
theorem dX5_tableFault_51 : decode cX5_tableFault 51 = .ok (.bipush 16, 2) := by decide +kernel
theorem dX5_tableFault_53 : decode cX5_tableFault 53 = .ok (.if_icmp .le 7, 3) := by decide +kernel
theorem dX5_tableFault_56 : decode cX5_tableFault 56 = .ok (.iload_n 3, 1) := by decide +kernel
theorem dX5_tableFault_57 : decode cX5_tableFault 57 = .ok (.iconst 1, 1) := by decide +kernel
theorem dX5_tableFault_58 : decode cX5_tableFault 58 = .ok (.iadd, 1) := by decide +kernel
theorem dX5_tableFault_59 : decode cX5_tableFault 59 = .ok (.ireturn, 1) := by decide +kernel
theorem dX5_tableFault_60 : decode cX5_tableFault 60 = .ok (.iload_n 2, 1) := by decide +kernel
theorem dX5_tableFault_61 : decode cX5_tableFault 61 = .ok (.iload 4, 2) := by decide +kernel
theorem dX5_tableFault_63 : decode cX5_tableFault 63 = .ok (.invokestatic 84, 3) := by decide +kernel
theorem dX5_tableFault_66 : decode cX5_tableFault 66 = .ok (.iadd, 1) := by decide +kernel
theorem dX5_tableFault_67 : decode cX5_tableFault 67 = .ok (.aload_n 1, 1) := by decide +kernel
theorem dX5_tableFault_68 : decode cX5_tableFault 68 = .ok (.getfield 47, 3) := by decide +kernel
theorem dX5_tableFault_71 : decode cX5_tableFault 71 = .ok (.if_icmp .le 5, 3) := by decide +kernel
theorem dX5_tableFault_74 : decode cX5_tableFault 74 = .ok (.iload_n 3, 1) := by decide +kernel
theorem dX5_tableFault_75 : decode cX5_tableFault 75 = .ok (.ireturn, 1) := by decide +kernel
theorem dX5_tableFault_76 : decode cX5_tableFault 76 = .ok (.iload_n 3, 1) := by decide +kernel
theorem dX5_tableFault_77 : decode cX5_tableFault 77 = .ok (.iload 4, 2) := by decide +kernel
theorem dX5_tableFault_79 : decode cX5_tableFault 79 = .ok (.invokestatic 84, 3) := by decide +kernel
theorem dX5_tableFault_82 : decode cX5_tableFault 82 = .ok (.iadd, 1) := by decide +kernel
theorem dX5_tableFault_83 : decode cX5_tableFault 83 = .ok (.aload_n 0, 1) := by decide +kernel
theorem dX5_tableFault_84 : decode cX5_tableFault 84 = .ok (.getfield 15, 3) := by decide +kernel
theorem dX5_tableFault_87 : decode cX5_tableFault 87 = .ok (.if_icmp .le 10, 3) := by decide +kernel
theorem dX5_tableFault_90 : decode cX5_tableFault 90 = .ok (.aload_n 0, 1) := by decide +kernel
theorem dX5_tableFault_91 : decode cX5_tableFault 91 = .ok (.getfield 15, 3) := by decide +kernel
theorem dX5_tableFault_94 : decode cX5_tableFault 94 = .ok (.goto 4, 3) := by decide +kernel
theorem dX5_tableFault_97 : decode cX5_tableFault 97 = .ok (.iconst (-1), 1) := by decide +kernel
theorem dX5_tableFault_98 : decode cX5_tableFault 98 = .ok (.ireturn, 1) := by decide +kernel
theorem dX5_operandFits_0 : decode cX5_operandFits 0 = .ok (.iload_n 1, 1) := by decide +kernel
theorem dX5_operandFits_1 : decode cX5_operandFits 1 = .ok (.lookupswitch 99 #[(3, 59), (4, 59), (5, 59), (34, 73), (35, 73), (40, 85)], 59) := by decide +kernel
theorem dX5_operandFits_60 : decode cX5_operandFits 60 = .ok (.iload_n 2, 1) := by decide +kernel
theorem dX5_operandFits_61 : decode cX5_operandFits 61 = .ok (.aload_n 0, 1) := by decide +kernel
theorem dX5_operandFits_62 : decode cX5_operandFits 62 = .ok (.getfield 44, 3) := by decide +kernel
theorem dX5_operandFits_65 : decode cX5_operandFits 65 = .ok (.if_icmp .ge 7, 3) := by decide +kernel
theorem dX5_operandFits_68 : decode cX5_operandFits 68 = .ok (.iconst 1, 1) := by decide +kernel
theorem dX5_operandFits_69 : decode cX5_operandFits 69 = .ok (.goto 4, 3) := by decide +kernel
theorem dX5_operandFits_72 : decode cX5_operandFits 72 = .ok (.iconst 0, 1) := by decide +kernel
theorem dX5_operandFits_73 : decode cX5_operandFits 73 = .ok (.ireturn, 1) := by decide +kernel
theorem dX5_operandFits_74 : decode cX5_operandFits 74 = .ok (.iload_n 2, 1) := by decide +kernel
theorem dX5_operandFits_75 : decode cX5_operandFits 75 = .ok (.bipush 8, 2) := by decide +kernel
theorem dX5_operandFits_77 : decode cX5_operandFits 77 = .ok (.if_icmp .ge 7, 3) := by decide +kernel
theorem dX5_operandFits_80 : decode cX5_operandFits 80 = .ok (.iconst 1, 1) := by decide +kernel
theorem dX5_operandFits_81 : decode cX5_operandFits 81 = .ok (.goto 4, 3) := by decide +kernel
theorem dX5_operandFits_84 : decode cX5_operandFits 84 = .ok (.iconst 0, 1) := by decide +kernel
theorem dX5_operandFits_85 : decode cX5_operandFits 85 = .ok (.ireturn, 1) := by decide +kernel
theorem dX5_operandFits_86 : decode cX5_operandFits 86 = .ok (.iload_n 2, 1) := by decide +kernel
theorem dX5_operandFits_87 : decode cX5_operandFits 87 = .ok (.aload_n 0, 1) := by decide +kernel
theorem dX5_operandFits_88 : decode cX5_operandFits 88 = .ok (.getfield 87, 3) := by decide +kernel
theorem dX5_operandFits_91 : decode cX5_operandFits 91 = .ok (.if_icmp .gt 7, 3) := by decide +kernel
theorem dX5_operandFits_94 : decode cX5_operandFits 94 = .ok (.iconst 1, 1) := by decide +kernel
theorem dX5_operandFits_95 : decode cX5_operandFits 95 = .ok (.goto 4, 3) := by decide +kernel
theorem dX5_operandFits_98 : decode cX5_operandFits 98 = .ok (.iconst 0, 1) := by decide +kernel
theorem dX5_operandFits_99 : decode cX5_operandFits 99 = .ok (.ireturn, 1) := by decide +kernel
theorem dX5_operandFits_100 : decode cX5_operandFits 100 = .ok (.iconst 1, 1) := by decide +kernel
theorem dX5_operandFits_101 : decode cX5_operandFits 101 = .ok (.ireturn, 1) := by decide +kernel
theorem dX5_tailFault_0 : decode cX5_tailFault 0 = .ok (.iconst 4, 1) := by decide +kernel
theorem dX5_tailFault_1 : decode cX5_tailFault 1 = .ok (.aload_n 1, 1) := by decide +kernel
theorem dX5_tailFault_2 : decode cX5_tailFault 2 = .ok (.getfield 47, 3) := by decide +kernel
theorem dX5_tailFault_5 : decode cX5_tailFault 5 = .ok (.iadd, 1) := by decide +kernel
theorem dX5_tailFault_6 : decode cX5_tailFault 6 = .ok (.istore_n 2, 1) := by decide +kernel
theorem dX5_tailFault_7 : decode cX5_tailFault 7 = .ok (.iload_n 2, 1) := by decide +kernel
theorem dX5_tailFault_8 : decode cX5_tailFault 8 = .ok (.aload_n 0, 1) := by decide +kernel
theorem dX5_tailFault_9 : decode cX5_tailFault 9 = .ok (.getfield 15, 3) := by decide +kernel
theorem dX5_tailFault_12 : decode cX5_tailFault 12 = .ok (.if_icmp .lt 8, 3) := by decide +kernel
theorem dX5_tailFault_15 : decode cX5_tailFault 15 = .ok (.aload_n 0, 1) := by decide +kernel
theorem dX5_tailFault_16 : decode cX5_tailFault 16 = .ok (.getfield 15, 3) := by decide +kernel
theorem dX5_tailFault_19 : decode cX5_tailFault 19 = .ok (.ireturn, 1) := by decide +kernel
theorem dX5_tailFault_20 : decode cX5_tailFault 20 = .ok (.aload_n 0, 1) := by decide +kernel
theorem dX5_tailFault_21 : decode cX5_tailFault 21 = .ok (.getfield 9, 3) := by decide +kernel
theorem dX5_tailFault_24 : decode cX5_tailFault 24 = .ok (.iload_n 2, 1) := by decide +kernel
theorem dX5_tailFault_25 : decode cX5_tailFault 25 = .ok (.invokestatic 35, 3) := by decide +kernel
theorem dX5_tailFault_28 : decode cX5_tailFault 28 = .ok (.istore_n 3, 1) := by decide +kernel
theorem dX5_tailFault_29 : decode cX5_tailFault 29 = .ok (.iload_n 3, 1) := by decide +kernel
theorem dX5_tailFault_30 : decode cX5_tailFault 30 = .ok (.bipush 8, 2) := by decide +kernel
theorem dX5_tailFault_32 : decode cX5_tailFault 32 = .ok (.if_icmp .le 5, 3) := by decide +kernel
theorem dX5_tailFault_35 : decode cX5_tailFault 35 = .ok (.iload_n 2, 1) := by decide +kernel
theorem dX5_tailFault_36 : decode cX5_tailFault 36 = .ok (.ireturn, 1) := by decide +kernel
theorem dX5_tailFault_37 : decode cX5_tailFault 37 = .ok (.iload_n 2, 1) := by decide +kernel
theorem dX5_tailFault_38 : decode cX5_tailFault 38 = .ok (.iconst 1, 1) := by decide +kernel
theorem dX5_tailFault_39 : decode cX5_tailFault 39 = .ok (.iadd, 1) := by decide +kernel
theorem dX5_tailFault_40 : decode cX5_tailFault 40 = .ok (.bipush 7, 2) := by decide +kernel
theorem dX5_tailFault_42 : decode cX5_tailFault 42 = .ok (.iload_n 3, 1) := by decide +kernel
theorem dX5_tailFault_43 : decode cX5_tailFault 43 = .ok (.imul, 1) := by decide +kernel
theorem dX5_tailFault_44 : decode cX5_tailFault 44 = .ok (.iadd, 1) := by decide +kernel
theorem dX5_tailFault_45 : decode cX5_tailFault 45 = .ok (.istore 4, 2) := by decide +kernel
theorem dX5_tailFault_47 : decode cX5_tailFault 47 = .ok (.iload 4, 2) := by decide +kernel
theorem dX5_tailFault_49 : decode cX5_tailFault 49 = .ok (.aload_n 0, 1) := by decide +kernel
theorem dX5_tailFault_50 : decode cX5_tailFault 50 = .ok (.getfield 15, 3) := by decide +kernel
theorem dX5_tailFault_53 : decode cX5_tailFault 53 = .ok (.if_icmp .eq 13, 3) := by decide +kernel
theorem dX5_tailFault_56 : decode cX5_tailFault 56 = .ok (.iload 4, 2) := by decide +kernel
theorem dX5_tailFault_58 : decode cX5_tailFault 58 = .ok (.aload_n 0, 1) := by decide +kernel
theorem dX5_tailFault_59 : decode cX5_tailFault 59 = .ok (.getfield 15, 3) := by decide +kernel
theorem dX5_tailFault_62 : decode cX5_tailFault 62 = .ok (.invokestatic 19, 3) := by decide +kernel
theorem dX5_tailFault_65 : decode cX5_tailFault 65 = .ok (.ireturn, 1) := by decide +kernel
theorem dX5_tailFault_66 : decode cX5_tailFault 66 = .ok (.aload_n 1, 1) := by decide +kernel
theorem dX5_tailFault_67 : decode cX5_tailFault 67 = .ok (.iload_n 3, 1) := by decide +kernel
theorem dX5_tailFault_68 : decode cX5_tailFault 68 = .ok (.putfield 90, 3) := by decide +kernel
theorem dX5_tailFault_71 : decode cX5_tailFault 71 = .ok (.iconst 0, 1) := by decide +kernel
theorem dX5_tailFault_72 : decode cX5_tailFault 72 = .ok (.istore 5, 2) := by decide +kernel
theorem dX5_tailFault_74 : decode cX5_tailFault 74 = .ok (.iload 5, 2) := by decide +kernel
theorem dX5_tailFault_76 : decode cX5_tailFault 76 = .ok (.iload_n 3, 1) := by decide +kernel
theorem dX5_tailFault_77 : decode cX5_tailFault 77 = .ok (.if_icmp .ge 28, 3) := by decide +kernel
theorem dX5_tailFault_80 : decode cX5_tailFault 80 = .ok (.aload_n 0, 1) := by decide +kernel
theorem dX5_tailFault_81 : decode cX5_tailFault 81 = .ok (.aload_n 1, 1) := by decide +kernel
theorem dX5_tailFault_82 : decode cX5_tailFault 82 = .ok (.getfield 93, 3) := by decide +kernel
theorem dX5_tailFault_85 : decode cX5_tailFault 85 = .ok (.iload 5, 2) := by decide +kernel
theorem dX5_tailFault_87 : decode cX5_tailFault 87 = .ok (.iload_n 2, 1) := by decide +kernel
theorem dX5_tailFault_88 : decode cX5_tailFault 88 = .ok (.iconst 1, 1) := by decide +kernel
theorem dX5_tailFault_89 : decode cX5_tailFault 89 = .ok (.iadd, 1) := by decide +kernel
theorem dX5_tailFault_90 : decode cX5_tailFault 90 = .ok (.bipush 7, 2) := by decide +kernel
theorem dX5_tailFault_92 : decode cX5_tailFault 92 = .ok (.iload 5, 2) := by decide +kernel
theorem dX5_tailFault_94 : decode cX5_tailFault 94 = .ok (.imul, 1) := by decide +kernel
theorem dX5_tailFault_95 : decode cX5_tailFault 95 = .ok (.iadd, 1) := by decide +kernel
theorem dX5_tailFault_96 : decode cX5_tailFault 96 = .ok (.invokevirtual 96, 3) := by decide +kernel
theorem dX5_tailFault_99 : decode cX5_tailFault 99 = .ok (.iinc 5 1, 3) := by decide +kernel
theorem dX5_tailFault_102 : decode cX5_tailFault 102 = .ok (.goto (-28), 3) := by decide +kernel
theorem dX5_tailFault_105 : decode cX5_tailFault 105 = .ok (.iconst (-1), 1) := by decide +kernel
theorem dX5_tailFault_106 : decode cX5_tailFault 106 = .ok (.ireturn, 1) := by decide +kernel
theorem dX5_readHandler_0 : decode cX5_readHandler 0 = .ok (.iload_n 2, 1) := by decide +kernel
theorem dX5_readHandler_1 : decode cX5_readHandler 1 = .ok (.iconst 4, 1) := by decide +kernel
theorem dX5_readHandler_2 : decode cX5_readHandler 2 = .ok (.imul, 1) := by decide +kernel
theorem dX5_readHandler_3 : decode cX5_readHandler 3 = .ok (.istore 4, 2) := by decide +kernel
theorem dX5_readHandler_5 : decode cX5_readHandler 5 = .ok (.iload 4, 2) := by decide +kernel
theorem dX5_readHandler_7 : decode cX5_readHandler 7 = .ok (.ifCond .lt 12, 3) := by decide +kernel
theorem dX5_readHandler_10 : decode cX5_readHandler 10 = .ok (.iload 4, 2) := by decide +kernel
theorem dX5_readHandler_12 : decode cX5_readHandler 12 = .ok (.iconst 3, 1) := by decide +kernel
theorem dX5_readHandler_13 : decode cX5_readHandler 13 = .ok (.iadd, 1) := by decide +kernel
theorem dX5_readHandler_14 : decode cX5_readHandler 14 = .ok (.aload_n 1, 1) := by decide +kernel
theorem dX5_readHandler_15 : decode cX5_readHandler 15 = .ok (.arraylength, 1) := by decide +kernel
theorem dX5_readHandler_16 : decode cX5_readHandler 16 = .ok (.if_icmp .lt 4, 3) := by decide +kernel
theorem dX5_readHandler_19 : decode cX5_readHandler 19 = .ok (.return_, 1) := by decide +kernel
theorem dX5_readHandler_20 : decode cX5_readHandler 20 = .ok (.aload_n 1, 1) := by decide +kernel
theorem dX5_readHandler_21 : decode cX5_readHandler 21 = .ok (.iload 4, 2) := by decide +kernel
theorem dX5_readHandler_23 : decode cX5_readHandler 23 = .ok (.aload_n 0, 1) := by decide +kernel
theorem dX5_readHandler_24 : decode cX5_readHandler 24 = .ok (.getfield 9, 3) := by decide +kernel
theorem dX5_readHandler_27 : decode cX5_readHandler 27 = .ok (.iload_n 3, 1) := by decide +kernel
theorem dX5_readHandler_28 : decode cX5_readHandler 28 = .ok (.invokestatic 35, 3) := by decide +kernel
theorem dX5_readHandler_31 : decode cX5_readHandler 31 = .ok (.bipush 8, 2) := by decide +kernel
theorem dX5_readHandler_33 : decode cX5_readHandler 33 = .ok (.ishl, 1) := by decide +kernel
theorem dX5_readHandler_34 : decode cX5_readHandler 34 = .ok (.aload_n 0, 1) := by decide +kernel
theorem dX5_readHandler_35 : decode cX5_readHandler 35 = .ok (.getfield 9, 3) := by decide +kernel
theorem dX5_readHandler_38 : decode cX5_readHandler 38 = .ok (.iload_n 3, 1) := by decide +kernel
theorem dX5_readHandler_39 : decode cX5_readHandler 39 = .ok (.iconst 1, 1) := by decide +kernel
theorem dX5_readHandler_40 : decode cX5_readHandler 40 = .ok (.iadd, 1) := by decide +kernel
theorem dX5_readHandler_41 : decode cX5_readHandler 41 = .ok (.invokestatic 35, 3) := by decide +kernel
theorem dX5_readHandler_44 : decode cX5_readHandler 44 = .ok (.ior, 1) := by decide +kernel
theorem dX5_readHandler_45 : decode cX5_readHandler 45 = .ok (.iastore, 1) := by decide +kernel
theorem dX5_readHandler_46 : decode cX5_readHandler 46 = .ok (.aload_n 1, 1) := by decide +kernel
theorem dX5_readHandler_47 : decode cX5_readHandler 47 = .ok (.iload 4, 2) := by decide +kernel
theorem dX5_readHandler_49 : decode cX5_readHandler 49 = .ok (.iconst 1, 1) := by decide +kernel
theorem dX5_readHandler_50 : decode cX5_readHandler 50 = .ok (.iadd, 1) := by decide +kernel
theorem dX5_readHandler_51 : decode cX5_readHandler 51 = .ok (.aload_n 0, 1) := by decide +kernel
theorem dX5_readHandler_52 : decode cX5_readHandler 52 = .ok (.getfield 9, 3) := by decide +kernel
theorem dX5_readHandler_55 : decode cX5_readHandler 55 = .ok (.iload_n 3, 1) := by decide +kernel
theorem dX5_readHandler_56 : decode cX5_readHandler 56 = .ok (.iconst 2, 1) := by decide +kernel
theorem dX5_readHandler_57 : decode cX5_readHandler 57 = .ok (.iadd, 1) := by decide +kernel
theorem dX5_readHandler_58 : decode cX5_readHandler 58 = .ok (.invokestatic 35, 3) := by decide +kernel
theorem dX5_readHandler_61 : decode cX5_readHandler 61 = .ok (.bipush 8, 2) := by decide +kernel
theorem dX5_readHandler_63 : decode cX5_readHandler 63 = .ok (.ishl, 1) := by decide +kernel
theorem dX5_readHandler_64 : decode cX5_readHandler 64 = .ok (.aload_n 0, 1) := by decide +kernel
theorem dX5_readHandler_65 : decode cX5_readHandler 65 = .ok (.getfield 9, 3) := by decide +kernel
theorem dX5_readHandler_68 : decode cX5_readHandler 68 = .ok (.iload_n 3, 1) := by decide +kernel
theorem dX5_readHandler_69 : decode cX5_readHandler 69 = .ok (.iconst 3, 1) := by decide +kernel
theorem dX5_readHandler_70 : decode cX5_readHandler 70 = .ok (.iadd, 1) := by decide +kernel
theorem dX5_readHandler_71 : decode cX5_readHandler 71 = .ok (.invokestatic 35, 3) := by decide +kernel
theorem dX5_readHandler_74 : decode cX5_readHandler 74 = .ok (.ior, 1) := by decide +kernel
theorem dX5_readHandler_75 : decode cX5_readHandler 75 = .ok (.iastore, 1) := by decide +kernel
theorem dX5_readHandler_76 : decode cX5_readHandler 76 = .ok (.aload_n 1, 1) := by decide +kernel
theorem dX5_readHandler_77 : decode cX5_readHandler 77 = .ok (.iload 4, 2) := by decide +kernel
theorem dX5_readHandler_79 : decode cX5_readHandler 79 = .ok (.iconst 2, 1) := by decide +kernel
theorem dX5_readHandler_80 : decode cX5_readHandler 80 = .ok (.iadd, 1) := by decide +kernel
theorem dX5_readHandler_81 : decode cX5_readHandler 81 = .ok (.aload_n 0, 1) := by decide +kernel
theorem dX5_readHandler_82 : decode cX5_readHandler 82 = .ok (.getfield 9, 3) := by decide +kernel
theorem dX5_readHandler_85 : decode cX5_readHandler 85 = .ok (.iload_n 3, 1) := by decide +kernel
theorem dX5_readHandler_86 : decode cX5_readHandler 86 = .ok (.iconst 4, 1) := by decide +kernel
theorem dX5_readHandler_87 : decode cX5_readHandler 87 = .ok (.iadd, 1) := by decide +kernel
theorem dX5_readHandler_88 : decode cX5_readHandler 88 = .ok (.invokestatic 35, 3) := by decide +kernel
theorem dX5_readHandler_91 : decode cX5_readHandler 91 = .ok (.bipush 8, 2) := by decide +kernel
theorem dX5_readHandler_93 : decode cX5_readHandler 93 = .ok (.ishl, 1) := by decide +kernel
theorem dX5_readHandler_94 : decode cX5_readHandler 94 = .ok (.aload_n 0, 1) := by decide +kernel
theorem dX5_readHandler_95 : decode cX5_readHandler 95 = .ok (.getfield 9, 3) := by decide +kernel
theorem dX5_readHandler_98 : decode cX5_readHandler 98 = .ok (.iload_n 3, 1) := by decide +kernel
theorem dX5_readHandler_99 : decode cX5_readHandler 99 = .ok (.iconst 5, 1) := by decide +kernel
theorem dX5_readHandler_100 : decode cX5_readHandler 100 = .ok (.iadd, 1) := by decide +kernel
theorem dX5_readHandler_101 : decode cX5_readHandler 101 = .ok (.invokestatic 35, 3) := by decide +kernel
theorem dX5_readHandler_104 : decode cX5_readHandler 104 = .ok (.ior, 1) := by decide +kernel
theorem dX5_readHandler_105 : decode cX5_readHandler 105 = .ok (.iastore, 1) := by decide +kernel
theorem dX5_readHandler_106 : decode cX5_readHandler 106 = .ok (.aload_n 1, 1) := by decide +kernel
theorem dX5_readHandler_107 : decode cX5_readHandler 107 = .ok (.iload 4, 2) := by decide +kernel
theorem dX5_readHandler_109 : decode cX5_readHandler 109 = .ok (.iconst 3, 1) := by decide +kernel
theorem dX5_readHandler_110 : decode cX5_readHandler 110 = .ok (.iadd, 1) := by decide +kernel
theorem dX5_readHandler_111 : decode cX5_readHandler 111 = .ok (.aload_n 0, 1) := by decide +kernel
theorem dX5_readHandler_112 : decode cX5_readHandler 112 = .ok (.getfield 9, 3) := by decide +kernel
theorem dX5_readHandler_115 : decode cX5_readHandler 115 = .ok (.iload_n 3, 1) := by decide +kernel
theorem dX5_readHandler_116 : decode cX5_readHandler 116 = .ok (.bipush 6, 2) := by decide +kernel
theorem dX5_readHandler_118 : decode cX5_readHandler 118 = .ok (.iadd, 1) := by decide +kernel
theorem dX5_readHandler_119 : decode cX5_readHandler 119 = .ok (.invokestatic 35, 3) := by decide +kernel
theorem dX5_readHandler_122 : decode cX5_readHandler 122 = .ok (.iastore, 1) := by decide +kernel
theorem dX5_readHandler_123 : decode cX5_readHandler 123 = .ok (.return_, 1) := by decide +kernel
theorem dX6_init_0 : decode cX6_init 0 = .ok (.aload_n 0, 1) := by decide +kernel
theorem dX6_init_1 : decode cX6_init 1 = .ok (.invokespecial 3, 3) := by decide +kernel
theorem dX6_init_4 : decode cX6_init 4 = .ok (.aload_n 0, 1) := by decide +kernel
theorem dX6_init_5 : decode cX6_init 5 = .ok (.bipush 8, 2) := by decide +kernel
theorem dX6_init_7 : decode cX6_init 7 = .ok (.newarray .int, 2) := by decide +kernel
theorem dX6_init_9 : decode cX6_init 9 = .ok (.putfield 9, 3) := by decide +kernel
theorem dX6_init_12 : decode cX6_init 12 = .ok (.aload_n 0, 1) := by decide +kernel
theorem dX6_init_13 : decode cX6_init 13 = .ok (.bipush 60, 2) := by decide +kernel
theorem dX6_init_15 : decode cX6_init 15 = .ok (.newarray .int, 2) := by decide +kernel
theorem dX6_init_17 : decode cX6_init 17 = .ok (.putfield 15, 3) := by decide +kernel
theorem dX6_init_20 : decode cX6_init 20 = .ok (.aload_n 0, 1) := by decide +kernel
theorem dX6_init_21 : decode cX6_init 21 = .ok (.sipush 400, 3) := by decide +kernel
theorem dX6_init_24 : decode cX6_init 24 = .ok (.newarray .int, 2) := by decide +kernel
theorem dX6_init_26 : decode cX6_init 26 = .ok (.putfield 18, 3) := by decide +kernel
theorem dX6_init_29 : decode cX6_init 29 = .ok (.aload_n 0, 1) := by decide +kernel
theorem dX6_init_30 : decode cX6_init 30 = .ok (.sipush 400, 3) := by decide +kernel
theorem dX6_init_33 : decode cX6_init 33 = .ok (.newarray .int, 2) := by decide +kernel
theorem dX6_init_35 : decode cX6_init 35 = .ok (.putfield 21, 3) := by decide +kernel
theorem dX6_init_38 : decode cX6_init 38 = .ok (.aload_n 0, 1) := by decide +kernel
theorem dX6_init_39 : decode cX6_init 39 = .ok (.iconst (-1), 1) := by decide +kernel
theorem dX6_init_40 : decode cX6_init 40 = .ok (.putfield 24, 3) := by decide +kernel
theorem dX6_init_43 : decode cX6_init 43 = .ok (.aload_n 0, 1) := by decide +kernel
theorem dX6_init_44 : decode cX6_init 44 = .ok (.iconst 0, 1) := by decide +kernel
theorem dX6_init_45 : decode cX6_init 45 = .ok (.putfield 28, 3) := by decide +kernel
theorem dX6_init_48 : decode cX6_init 48 = .ok (.aload_n 0, 1) := by decide +kernel
theorem dX6_init_49 : decode cX6_init 49 = .ok (.iconst 0, 1) := by decide +kernel
theorem dX6_init_50 : decode cX6_init 50 = .ok (.putfield 31, 3) := by decide +kernel
theorem dX6_init_53 : decode cX6_init 53 = .ok (.aload_n 0, 1) := by decide +kernel
theorem dX6_init_54 : decode cX6_init 54 = .ok (.iconst 0, 1) := by decide +kernel
theorem dX6_init_55 : decode cX6_init 55 = .ok (.putfield 34, 3) := by decide +kernel
theorem dX6_init_58 : decode cX6_init 58 = .ok (.aload_n 0, 1) := by decide +kernel
theorem dX6_init_59 : decode cX6_init 59 = .ok (.iconst 0, 1) := by decide +kernel
theorem dX6_init_60 : decode cX6_init 60 = .ok (.putfield 37, 3) := by decide +kernel
theorem dX6_init_63 : decode cX6_init 63 = .ok (.aload_n 0, 1) := by decide +kernel
theorem dX6_init_64 : decode cX6_init 64 = .ok (.iconst (-1), 1) := by decide +kernel
theorem dX6_init_65 : decode cX6_init 65 = .ok (.putfield 40, 3) := by decide +kernel
theorem dX6_init_68 : decode cX6_init 68 = .ok (.aload_n 0, 1) := by decide +kernel
theorem dX6_init_69 : decode cX6_init 69 = .ok (.iconst (-1), 1) := by decide +kernel
theorem dX6_init_70 : decode cX6_init 70 = .ok (.putfield 43, 3) := by decide +kernel
theorem dX6_init_73 : decode cX6_init 73 = .ok (.aload_n 0, 1) := by decide +kernel
theorem dX6_init_74 : decode cX6_init 74 = .ok (.iconst 0, 1) := by decide +kernel
theorem dX6_init_75 : decode cX6_init 75 = .ok (.putfield 46, 3) := by decide +kernel
theorem dX6_init_78 : decode cX6_init 78 = .ok (.aload_n 0, 1) := by decide +kernel
theorem dX6_init_79 : decode cX6_init 79 = .ok (.iconst 0, 1) := by decide +kernel
theorem dX6_init_80 : decode cX6_init 80 = .ok (.putfield 49, 3) := by decide +kernel
theorem dX6_init_83 : decode cX6_init 83 = .ok (.return_, 1) := by decide +kernel
theorem dX6_startAnew_0 : decode cX6_startAnew 0 = .ok (.aload_n 0, 1) := by decide +kernel
theorem dX6_startAnew_1 : decode cX6_startAnew 1 = .ok (.getfield 9, 3) := by decide +kernel
theorem dX6_startAnew_4 : decode cX6_startAnew 4 = .ok (.iconst 0, 1) := by decide +kernel
theorem dX6_startAnew_5 : decode cX6_startAnew 5 = .ok (.invokestatic 52, 3) := by decide +kernel
theorem dX6_startAnew_8 : decode cX6_startAnew 8 = .ok (.aload_n 0, 1) := by decide +kernel
theorem dX6_startAnew_9 : decode cX6_startAnew 9 = .ok (.iconst (-1), 1) := by decide +kernel
theorem dX6_startAnew_10 : decode cX6_startAnew 10 = .ok (.putfield 24, 3) := by decide +kernel
theorem dX6_startAnew_13 : decode cX6_startAnew 13 = .ok (.aload_n 0, 1) := by decide +kernel
theorem dX6_startAnew_14 : decode cX6_startAnew 14 = .ok (.iconst 0, 1) := by decide +kernel
theorem dX6_startAnew_15 : decode cX6_startAnew 15 = .ok (.putfield 28, 3) := by decide +kernel
theorem dX6_startAnew_18 : decode cX6_startAnew 18 = .ok (.aload_n 0, 1) := by decide +kernel
theorem dX6_startAnew_19 : decode cX6_startAnew 19 = .ok (.iconst 0, 1) := by decide +kernel
theorem dX6_startAnew_20 : decode cX6_startAnew 20 = .ok (.putfield 31, 3) := by decide +kernel
theorem dX6_startAnew_23 : decode cX6_startAnew 23 = .ok (.aload_n 0, 1) := by decide +kernel
theorem dX6_startAnew_24 : decode cX6_startAnew 24 = .ok (.iconst 0, 1) := by decide +kernel
theorem dX6_startAnew_25 : decode cX6_startAnew 25 = .ok (.putfield 34, 3) := by decide +kernel
theorem dX6_startAnew_28 : decode cX6_startAnew 28 = .ok (.aload_n 0, 1) := by decide +kernel
theorem dX6_startAnew_29 : decode cX6_startAnew 29 = .ok (.iconst 0, 1) := by decide +kernel
theorem dX6_startAnew_30 : decode cX6_startAnew 30 = .ok (.putfield 37, 3) := by decide +kernel
theorem dX6_startAnew_33 : decode cX6_startAnew 33 = .ok (.aload_n 0, 1) := by decide +kernel
theorem dX6_startAnew_34 : decode cX6_startAnew 34 = .ok (.iconst (-1), 1) := by decide +kernel
theorem dX6_startAnew_35 : decode cX6_startAnew 35 = .ok (.putfield 40, 3) := by decide +kernel
theorem dX6_startAnew_38 : decode cX6_startAnew 38 = .ok (.aload_n 0, 1) := by decide +kernel
theorem dX6_startAnew_39 : decode cX6_startAnew 39 = .ok (.iconst (-1), 1) := by decide +kernel
theorem dX6_startAnew_40 : decode cX6_startAnew 40 = .ok (.putfield 43, 3) := by decide +kernel
theorem dX6_startAnew_43 : decode cX6_startAnew 43 = .ok (.aload_n 0, 1) := by decide +kernel
theorem dX6_startAnew_44 : decode cX6_startAnew 44 = .ok (.iconst 0, 1) := by decide +kernel
theorem dX6_startAnew_45 : decode cX6_startAnew 45 = .ok (.putfield 46, 3) := by decide +kernel
theorem dX6_startAnew_48 : decode cX6_startAnew 48 = .ok (.aload_n 0, 1) := by decide +kernel
theorem dX6_startAnew_49 : decode cX6_startAnew 49 = .ok (.iconst 0, 1) := by decide +kernel
theorem dX6_startAnew_50 : decode cX6_startAnew 50 = .ok (.putfield 49, 3) := by decide +kernel
theorem dX6_startAnew_53 : decode cX6_startAnew 53 = .ok (.return_, 1) := by decide +kernel
theorem dX6_addMark_0 : decode cX6_addMark 0 = .ok (.aload_n 0, 1) := by decide +kernel
theorem dX6_addMark_1 : decode cX6_addMark 1 = .ok (.getfield 46, 3) := by decide +kernel
theorem dX6_addMark_4 : decode cX6_addMark 4 = .ok (.ifCond .lt 32, 3) := by decide +kernel
theorem dX6_addMark_7 : decode cX6_addMark 7 = .ok (.aload_n 0, 1) := by decide +kernel
theorem dX6_addMark_8 : decode cX6_addMark 8 = .ok (.getfield 46, 3) := by decide +kernel
theorem dX6_addMark_11 : decode cX6_addMark 11 = .ok (.bipush 60, 2) := by decide +kernel
theorem dX6_addMark_13 : decode cX6_addMark 13 = .ok (.if_icmp .ge 23, 3) := by decide +kernel
theorem dX6_addMark_16 : decode cX6_addMark 16 = .ok (.aload_n 0, 1) := by decide +kernel
theorem dX6_addMark_17 : decode cX6_addMark 17 = .ok (.getfield 15, 3) := by decide +kernel
theorem dX6_addMark_20 : decode cX6_addMark 20 = .ok (.aload_n 0, 1) := by decide +kernel
theorem dX6_addMark_21 : decode cX6_addMark 21 = .ok (.getfield 46, 3) := by decide +kernel
theorem dX6_addMark_24 : decode cX6_addMark 24 = .ok (.iload_n 1, 1) := by decide +kernel
theorem dX6_addMark_25 : decode cX6_addMark 25 = .ok (.iastore, 1) := by decide +kernel
theorem dX6_addMark_26 : decode cX6_addMark 26 = .ok (.aload_n 0, 1) := by decide +kernel
theorem dX6_addMark_27 : decode cX6_addMark 27 = .ok (.dup, 1) := by decide +kernel
theorem dX6_addMark_28 : decode cX6_addMark 28 = .ok (.getfield 46, 3) := by decide +kernel
theorem dX6_addMark_31 : decode cX6_addMark 31 = .ok (.iconst 1, 1) := by decide +kernel
theorem dX6_addMark_32 : decode cX6_addMark 32 = .ok (.iadd, 1) := by decide +kernel
theorem dX6_addMark_33 : decode cX6_addMark 33 = .ok (.putfield 46, 3) := by decide +kernel
theorem dX6_addMark_36 : decode cX6_addMark 36 = .ok (.return_, 1) := by decide +kernel
theorem dX6_addRecord_0 : decode cX6_addRecord 0 = .ok (.aload_n 0, 1) := by decide +kernel
theorem dX6_addRecord_1 : decode cX6_addRecord 1 = .ok (.getfield 49, 3) := by decide +kernel
theorem dX6_addRecord_4 : decode cX6_addRecord 4 = .ok (.ifCond .lt 33, 3) := by decide +kernel
theorem dX6_addRecord_7 : decode cX6_addRecord 7 = .ok (.aload_n 0, 1) := by decide +kernel
theorem dX6_addRecord_8 : decode cX6_addRecord 8 = .ok (.getfield 49, 3) := by decide +kernel
theorem dX6_addRecord_11 : decode cX6_addRecord 11 = .ok (.sipush 400, 3) := by decide +kernel
theorem dX6_addRecord_14 : decode cX6_addRecord 14 = .ok (.if_icmp .ge 23, 3) := by decide +kernel
theorem dX6_addRecord_17 : decode cX6_addRecord 17 = .ok (.aload_n 0, 1) := by decide +kernel
theorem dX6_addRecord_18 : decode cX6_addRecord 18 = .ok (.getfield 18, 3) := by decide +kernel
theorem dX6_addRecord_21 : decode cX6_addRecord 21 = .ok (.aload_n 0, 1) := by decide +kernel
theorem dX6_addRecord_22 : decode cX6_addRecord 22 = .ok (.getfield 49, 3) := by decide +kernel
theorem dX6_addRecord_25 : decode cX6_addRecord 25 = .ok (.iload_n 1, 1) := by decide +kernel
theorem dX6_addRecord_26 : decode cX6_addRecord 26 = .ok (.iastore, 1) := by decide +kernel
theorem dX6_addRecord_27 : decode cX6_addRecord 27 = .ok (.aload_n 0, 1) := by decide +kernel
theorem dX6_addRecord_28 : decode cX6_addRecord 28 = .ok (.getfield 21, 3) := by decide +kernel
theorem dX6_addRecord_31 : decode cX6_addRecord 31 = .ok (.aload_n 0, 1) := by decide +kernel
theorem dX6_addRecord_32 : decode cX6_addRecord 32 = .ok (.getfield 49, 3) := by decide +kernel
theorem dX6_addRecord_35 : decode cX6_addRecord 35 = .ok (.iload_n 2, 1) := by decide +kernel
theorem dX6_addRecord_36 : decode cX6_addRecord 36 = .ok (.iastore, 1) := by decide +kernel
theorem dX6_addRecord_37 : decode cX6_addRecord 37 = .ok (.aload_n 0, 1) := by decide +kernel
theorem dX6_addRecord_38 : decode cX6_addRecord 38 = .ok (.dup, 1) := by decide +kernel
theorem dX6_addRecord_39 : decode cX6_addRecord 39 = .ok (.getfield 49, 3) := by decide +kernel
theorem dX6_addRecord_42 : decode cX6_addRecord 42 = .ok (.iconst 1, 1) := by decide +kernel
theorem dX6_addRecord_43 : decode cX6_addRecord 43 = .ok (.iadd, 1) := by decide +kernel
theorem dX6_addRecord_44 : decode cX6_addRecord 44 = .ok (.putfield 49, 3) := by decide +kernel
theorem dX6_addRecord_47 : decode cX6_addRecord 47 = .ok (.return_, 1) := by decide +kernel
theorem dX6_recordsKept_0 : decode cX6_recordsKept 0 = .ok (.aload_n 0, 1) := by decide +kernel
theorem dX6_recordsKept_1 : decode cX6_recordsKept 1 = .ok (.getfield 49, 3) := by decide +kernel
theorem dX6_recordsKept_4 : decode cX6_recordsKept 4 = .ok (.sipush 400, 3) := by decide +kernel
theorem dX6_recordsKept_7 : decode cX6_recordsKept 7 = .ok (.invokestatic 58, 3) := by decide +kernel
theorem dX6_recordsKept_10 : decode cX6_recordsKept 10 = .ok (.ireturn, 1) := by decide +kernel
theorem dX6_markAt_0 : decode cX6_markAt 0 = .ok (.iload_n 1, 1) := by decide +kernel
theorem dX6_markAt_1 : decode cX6_markAt 1 = .ok (.ifCond .lt 26, 3) := by decide +kernel
theorem dX6_markAt_4 : decode cX6_markAt 4 = .ok (.iload_n 1, 1) := by decide +kernel
theorem dX6_markAt_5 : decode cX6_markAt 5 = .ok (.aload_n 0, 1) := by decide +kernel
theorem dX6_markAt_6 : decode cX6_markAt 6 = .ok (.getfield 46, 3) := by decide +kernel
theorem dX6_markAt_9 : decode cX6_markAt 9 = .ok (.if_icmp .ge 18, 3) := by decide +kernel
theorem dX6_markAt_12 : decode cX6_markAt 12 = .ok (.iload_n 1, 1) := by decide +kernel
theorem dX6_markAt_13 : decode cX6_markAt 13 = .ok (.bipush 60, 2) := by decide +kernel
theorem dX6_markAt_15 : decode cX6_markAt 15 = .ok (.if_icmp .ge 12, 3) := by decide +kernel
theorem dX6_markAt_18 : decode cX6_markAt 18 = .ok (.aload_n 0, 1) := by decide +kernel
theorem dX6_markAt_19 : decode cX6_markAt 19 = .ok (.getfield 15, 3) := by decide +kernel
theorem dX6_markAt_22 : decode cX6_markAt 22 = .ok (.iload_n 1, 1) := by decide +kernel
theorem dX6_markAt_23 : decode cX6_markAt 23 = .ok (.iaload, 1) := by decide +kernel
theorem dX6_markAt_24 : decode cX6_markAt 24 = .ok (.goto 4, 3) := by decide +kernel
theorem dX6_markAt_27 : decode cX6_markAt 27 = .ok (.iconst 0, 1) := by decide +kernel
theorem dX6_markAt_28 : decode cX6_markAt 28 = .ok (.ireturn, 1) := by decide +kernel
theorem dX6_recordPart_0 : decode cX6_recordPart 0 = .ok (.iload_n 1, 1) := by decide +kernel
theorem dX6_recordPart_1 : decode cX6_recordPart 1 = .ok (.ifCond .lt 11, 3) := by decide +kernel
theorem dX6_recordPart_4 : decode cX6_recordPart 4 = .ok (.iload_n 1, 1) := by decide +kernel
theorem dX6_recordPart_5 : decode cX6_recordPart 5 = .ok (.aload_n 0, 1) := by decide +kernel
theorem dX6_recordPart_6 : decode cX6_recordPart 6 = .ok (.invokevirtual 64, 3) := by decide +kernel
theorem dX6_recordPart_9 : decode cX6_recordPart 9 = .ok (.if_icmp .lt 5, 3) := by decide +kernel
theorem dX6_recordPart_12 : decode cX6_recordPart 12 = .ok (.iconst 0, 1) := by decide +kernel
theorem dX6_recordPart_13 : decode cX6_recordPart 13 = .ok (.ireturn, 1) := by decide +kernel
theorem dX6_recordPart_14 : decode cX6_recordPart 14 = .ok (.iload_n 2, 1) := by decide +kernel
theorem dX6_recordPart_15 : decode cX6_recordPart 15 = .ok (.ifCond .ne 10, 3) := by decide +kernel
theorem dX6_recordPart_18 : decode cX6_recordPart 18 = .ok (.aload_n 0, 1) := by decide +kernel
theorem dX6_recordPart_19 : decode cX6_recordPart 19 = .ok (.getfield 18, 3) := by decide +kernel
theorem dX6_recordPart_22 : decode cX6_recordPart 22 = .ok (.iload_n 1, 1) := by decide +kernel
theorem dX6_recordPart_23 : decode cX6_recordPart 23 = .ok (.iaload, 1) := by decide +kernel
theorem dX6_recordPart_24 : decode cX6_recordPart 24 = .ok (.ireturn, 1) := by decide +kernel
theorem dX6_recordPart_25 : decode cX6_recordPart 25 = .ok (.iload_n 2, 1) := by decide +kernel
theorem dX6_recordPart_26 : decode cX6_recordPart 26 = .ok (.iconst 1, 1) := by decide +kernel
theorem dX6_recordPart_27 : decode cX6_recordPart 27 = .ok (.if_icmp .ne 12, 3) := by decide +kernel
theorem dX6_recordPart_30 : decode cX6_recordPart 30 = .ok (.aload_n 0, 1) := by decide +kernel
theorem dX6_recordPart_31 : decode cX6_recordPart 31 = .ok (.getfield 21, 3) := by decide +kernel
theorem dX6_recordPart_34 : decode cX6_recordPart 34 = .ok (.iload_n 1, 1) := by decide +kernel
theorem dX6_recordPart_35 : decode cX6_recordPart 35 = .ok (.iaload, 1) := by decide +kernel
theorem dX6_recordPart_36 : decode cX6_recordPart 36 = .ok (.goto 4, 3) := by decide +kernel
theorem dX6_recordPart_39 : decode cX6_recordPart 39 = .ok (.iconst 0, 1) := by decide +kernel
theorem dX6_recordPart_40 : decode cX6_recordPart 40 = .ok (.ireturn, 1) := by decide +kernel
theorem dX6_recordsOf_0 : decode cX6_recordsOf 0 = .ok (.iconst 0, 1) := by decide +kernel
theorem dX6_recordsOf_1 : decode cX6_recordsOf 1 = .ok (.istore_n 2, 1) := by decide +kernel
theorem dX6_recordsOf_2 : decode cX6_recordsOf 2 = .ok (.iconst 0, 1) := by decide +kernel
theorem dX6_recordsOf_3 : decode cX6_recordsOf 3 = .ok (.istore_n 3, 1) := by decide +kernel
theorem dX6_recordsOf_4 : decode cX6_recordsOf 4 = .ok (.iload_n 3, 1) := by decide +kernel
theorem dX6_recordsOf_5 : decode cX6_recordsOf 5 = .ok (.aload_n 0, 1) := by decide +kernel
theorem dX6_recordsOf_6 : decode cX6_recordsOf 6 = .ok (.invokevirtual 64, 3) := by decide +kernel
theorem dX6_recordsOf_9 : decode cX6_recordsOf 9 = .ok (.if_icmp .ge 22, 3) := by decide +kernel
theorem dX6_recordsOf_12 : decode cX6_recordsOf 12 = .ok (.aload_n 0, 1) := by decide +kernel
theorem dX6_recordsOf_13 : decode cX6_recordsOf 13 = .ok (.getfield 18, 3) := by decide +kernel
theorem dX6_recordsOf_16 : decode cX6_recordsOf 16 = .ok (.iload_n 3, 1) := by decide +kernel
theorem dX6_recordsOf_17 : decode cX6_recordsOf 17 = .ok (.iaload, 1) := by decide +kernel
theorem dX6_recordsOf_18 : decode cX6_recordsOf 18 = .ok (.iload_n 1, 1) := by decide +kernel
theorem dX6_recordsOf_19 : decode cX6_recordsOf 19 = .ok (.if_icmp .ne 6, 3) := by decide +kernel
theorem dX6_recordsOf_22 : decode cX6_recordsOf 22 = .ok (.iinc 2 1, 3) := by decide +kernel
theorem dX6_recordsOf_25 : decode cX6_recordsOf 25 = .ok (.iinc 3 1, 3) := by decide +kernel
theorem dX6_recordsOf_28 : decode cX6_recordsOf 28 = .ok (.goto (-24), 3) := by decide +kernel
theorem dX6_recordsOf_31 : decode cX6_recordsOf 31 = .ok (.iload_n 2, 1) := by decide +kernel
theorem dX6_recordsOf_32 : decode cX6_recordsOf 32 = .ok (.ireturn, 1) := by decide +kernel
theorem dX6_tell_0 : decode cX6_tell 0 = .ok (.iload_n 1, 1) := by decide +kernel
theorem dX6_tell_1 : decode cX6_tell 1 = .ok (.tableswitch 96 0 8 #[51, 56, 61, 66, 71, 76, 81, 86, 91], 51) := by decide +kernel
theorem dX6_tell_52 : decode cX6_tell 52 = .ok (.aload_n 0, 1) := by decide +kernel
theorem dX6_tell_53 : decode cX6_tell 53 = .ok (.getfield 24, 3) := by decide +kernel
theorem dX6_tell_56 : decode cX6_tell 56 = .ok (.ireturn, 1) := by decide +kernel
theorem dX6_tell_57 : decode cX6_tell 57 = .ok (.aload_n 0, 1) := by decide +kernel
theorem dX6_tell_58 : decode cX6_tell 58 = .ok (.getfield 28, 3) := by decide +kernel
theorem dX6_tell_61 : decode cX6_tell 61 = .ok (.ireturn, 1) := by decide +kernel
theorem dX6_tell_62 : decode cX6_tell 62 = .ok (.aload_n 0, 1) := by decide +kernel
theorem dX6_tell_63 : decode cX6_tell 63 = .ok (.getfield 31, 3) := by decide +kernel
theorem dX6_tell_66 : decode cX6_tell 66 = .ok (.ireturn, 1) := by decide +kernel
theorem dX6_tell_67 : decode cX6_tell 67 = .ok (.aload_n 0, 1) := by decide +kernel
theorem dX6_tell_68 : decode cX6_tell 68 = .ok (.getfield 46, 3) := by decide +kernel
theorem dX6_tell_71 : decode cX6_tell 71 = .ok (.ireturn, 1) := by decide +kernel
theorem dX6_tell_72 : decode cX6_tell 72 = .ok (.aload_n 0, 1) := by decide +kernel
theorem dX6_tell_73 : decode cX6_tell 73 = .ok (.getfield 49, 3) := by decide +kernel
theorem dX6_tell_76 : decode cX6_tell 76 = .ok (.ireturn, 1) := by decide +kernel
theorem dX6_tell_77 : decode cX6_tell 77 = .ok (.aload_n 0, 1) := by decide +kernel
theorem dX6_tell_78 : decode cX6_tell 78 = .ok (.getfield 34, 3) := by decide +kernel
theorem dX6_tell_81 : decode cX6_tell 81 = .ok (.ireturn, 1) := by decide +kernel
theorem dX6_tell_82 : decode cX6_tell 82 = .ok (.aload_n 0, 1) := by decide +kernel
theorem dX6_tell_83 : decode cX6_tell 83 = .ok (.getfield 40, 3) := by decide +kernel
theorem dX6_tell_86 : decode cX6_tell 86 = .ok (.ireturn, 1) := by decide +kernel
theorem dX6_tell_87 : decode cX6_tell 87 = .ok (.aload_n 0, 1) := by decide +kernel
theorem dX6_tell_88 : decode cX6_tell 88 = .ok (.getfield 43, 3) := by decide +kernel
theorem dX6_tell_91 : decode cX6_tell 91 = .ok (.ireturn, 1) := by decide +kernel
theorem dX6_tell_92 : decode cX6_tell 92 = .ok (.aload_n 0, 1) := by decide +kernel
theorem dX6_tell_93 : decode cX6_tell 93 = .ok (.getfield 37, 3) := by decide +kernel
theorem dX6_tell_96 : decode cX6_tell 96 = .ok (.ireturn, 1) := by decide +kernel
theorem dX6_tell_97 : decode cX6_tell 97 = .ok (.bipush (-2), 2) := by decide +kernel
theorem dX6_tell_99 : decode cX6_tell 99 = .ok (.ireturn, 1) := by decide +kernel
theorem dX7_init_0 : decode cX7_init 0 = .ok (.aload_n 0, 1) := by decide +kernel
theorem dX7_init_1 : decode cX7_init 1 = .ok (.invokespecial 3, 3) := by decide +kernel
theorem dX7_init_4 : decode cX7_init 4 = .ok (.aload_n 0, 1) := by decide +kernel
theorem dX7_init_5 : decode cX7_init 5 = .ok (.sipush 400, 3) := by decide +kernel
theorem dX7_init_8 : decode cX7_init 8 = .ok (.newarray .int, 2) := by decide +kernel
theorem dX7_init_10 : decode cX7_init 10 = .ok (.putfield 9, 3) := by decide +kernel
theorem dX7_init_13 : decode cX7_init 13 = .ok (.aload_n 0, 1) := by decide +kernel
theorem dX7_init_14 : decode cX7_init 14 = .ok (.sipush 400, 3) := by decide +kernel
theorem dX7_init_17 : decode cX7_init 17 = .ok (.newarray .int, 2) := by decide +kernel
theorem dX7_init_19 : decode cX7_init 19 = .ok (.putfield 15, 3) := by decide +kernel
theorem dX7_init_22 : decode cX7_init 22 = .ok (.aload_n 0, 1) := by decide +kernel
theorem dX7_init_23 : decode cX7_init 23 = .ok (.sipush 400, 3) := by decide +kernel
theorem dX7_init_26 : decode cX7_init 26 = .ok (.newarray .int, 2) := by decide +kernel
theorem dX7_init_28 : decode cX7_init 28 = .ok (.putfield 18, 3) := by decide +kernel
theorem dX7_init_31 : decode cX7_init 31 = .ok (.aload_n 0, 1) := by decide +kernel
theorem dX7_init_32 : decode cX7_init 32 = .ok (.sipush 400, 3) := by decide +kernel
theorem dX7_init_35 : decode cX7_init 35 = .ok (.newarray .int, 2) := by decide +kernel
theorem dX7_init_37 : decode cX7_init 37 = .ok (.putfield 21, 3) := by decide +kernel
theorem dX7_init_40 : decode cX7_init 40 = .ok (.aload_n 0, 1) := by decide +kernel
theorem dX7_init_41 : decode cX7_init 41 = .ok (.sipush 401, 3) := by decide +kernel
theorem dX7_init_44 : decode cX7_init 44 = .ok (.newarray .int, 2) := by decide +kernel
theorem dX7_init_46 : decode cX7_init 46 = .ok (.putfield 24, 3) := by decide +kernel
theorem dX7_init_49 : decode cX7_init 49 = .ok (.aload_n 0, 1) := by decide +kernel
theorem dX7_init_50 : decode cX7_init 50 = .ok (.sipush 400, 3) := by decide +kernel
theorem dX7_init_53 : decode cX7_init 53 = .ok (.newarray .int, 2) := by decide +kernel
theorem dX7_init_55 : decode cX7_init 55 = .ok (.putfield 27, 3) := by decide +kernel
theorem dX7_init_58 : decode cX7_init 58 = .ok (.aload_n 0, 1) := by decide +kernel
theorem dX7_init_59 : decode cX7_init 59 = .ok (.sipush 400, 3) := by decide +kernel
theorem dX7_init_62 : decode cX7_init 62 = .ok (.newarray .int, 2) := by decide +kernel
theorem dX7_init_64 : decode cX7_init 64 = .ok (.putfield 30, 3) := by decide +kernel
theorem dX7_init_67 : decode cX7_init 67 = .ok (.aload_n 0, 1) := by decide +kernel
theorem dX7_init_68 : decode cX7_init 68 = .ok (.bipush 8, 2) := by decide +kernel
theorem dX7_init_70 : decode cX7_init 70 = .ok (.newarray .int, 2) := by decide +kernel
theorem dX7_init_72 : decode cX7_init 72 = .ok (.putfield 33, 3) := by decide +kernel
theorem dX7_init_75 : decode cX7_init 75 = .ok (.aload_n 0, 1) := by decide +kernel
theorem dX7_init_76 : decode cX7_init 76 = .ok (.sipush 400, 3) := by decide +kernel
theorem dX7_init_79 : decode cX7_init 79 = .ok (.newarray .boolean, 2) := by decide +kernel
theorem dX7_init_81 : decode cX7_init 81 = .ok (.putfield 36, 3) := by decide +kernel
theorem dX7_init_84 : decode cX7_init 84 = .ok (.aload_n 0, 1) := by decide +kernel
theorem dX7_init_85 : decode cX7_init 85 = .ok (.sipush 400, 3) := by decide +kernel
theorem dX7_init_88 : decode cX7_init 88 = .ok (.newarray .boolean, 2) := by decide +kernel
theorem dX7_init_90 : decode cX7_init 90 = .ok (.putfield 40, 3) := by decide +kernel
theorem dX7_init_93 : decode cX7_init 93 = .ok (.aload_n 0, 1) := by decide +kernel
theorem dX7_init_94 : decode cX7_init 94 = .ok (.bipush 8, 2) := by decide +kernel
theorem dX7_init_96 : decode cX7_init 96 = .ok (.newarray .boolean, 2) := by decide +kernel
theorem dX7_init_98 : decode cX7_init 98 = .ok (.putfield 43, 3) := by decide +kernel
theorem dX7_init_101 : decode cX7_init 101 = .ok (.aload_n 0, 1) := by decide +kernel
theorem dX7_init_102 : decode cX7_init 102 = .ok (.iconst 0, 1) := by decide +kernel
theorem dX7_init_103 : decode cX7_init 103 = .ok (.putfield 46, 3) := by decide +kernel
theorem dX7_init_106 : decode cX7_init 106 = .ok (.aload_n 0, 1) := by decide +kernel
theorem dX7_init_107 : decode cX7_init 107 = .ok (.iconst 0, 1) := by decide +kernel
theorem dX7_init_108 : decode cX7_init 108 = .ok (.putfield 50, 3) := by decide +kernel
theorem dX7_init_111 : decode cX7_init 111 = .ok (.aload_n 0, 1) := by decide +kernel
theorem dX7_init_112 : decode cX7_init 112 = .ok (.iconst 0, 1) := by decide +kernel
theorem dX7_init_113 : decode cX7_init 113 = .ok (.putfield 53, 3) := by decide +kernel
theorem dX7_init_116 : decode cX7_init 116 = .ok (.aload_n 0, 1) := by decide +kernel
theorem dX7_init_117 : decode cX7_init 117 = .ok (.iconst 0, 1) := by decide +kernel
theorem dX7_init_118 : decode cX7_init 118 = .ok (.putfield 56, 3) := by decide +kernel
theorem dX7_init_121 : decode cX7_init 121 = .ok (.aload_n 0, 1) := by decide +kernel
theorem dX7_init_122 : decode cX7_init 122 = .ok (.iconst 0, 1) := by decide +kernel
theorem dX7_init_123 : decode cX7_init 123 = .ok (.putfield 59, 3) := by decide +kernel
theorem dX7_init_126 : decode cX7_init 126 = .ok (.aload_n 0, 1) := by decide +kernel
theorem dX7_init_127 : decode cX7_init 127 = .ok (.iconst 0, 1) := by decide +kernel
theorem dX7_init_128 : decode cX7_init 128 = .ok (.putfield 62, 3) := by decide +kernel
theorem dX7_init_131 : decode cX7_init 131 = .ok (.return_, 1) := by decide +kernel
theorem dX7_weaveIn_0 : decode cX7_weaveIn 0 = .ok (.aload_n 0, 1) := by decide +kernel
theorem dX7_weaveIn_1 : decode cX7_weaveIn 1 = .ok (.invokevirtual 65, 3) := by decide +kernel
theorem dX7_weaveIn_4 : decode cX7_weaveIn 4 = .ok (.aload_n 0, 1) := by decide +kernel
theorem dX7_weaveIn_5 : decode cX7_weaveIn 5 = .ok (.aload_n 1, 1) := by decide +kernel
theorem dX7_weaveIn_6 : decode cX7_weaveIn 6 = .ok (.aload_n 2, 1) := by decide +kernel
theorem dX7_weaveIn_7 : decode cX7_weaveIn 7 = .ok (.invokevirtual 68, 3) := by decide +kernel
theorem dX7_weaveIn_10 : decode cX7_weaveIn 10 = .ok (.iconst 1, 1) := by decide +kernel
theorem dX7_weaveIn_11 : decode cX7_weaveIn 11 = .ok (.istore_n 3, 1) := by decide +kernel
theorem dX7_weaveIn_12 : decode cX7_weaveIn 12 = .ok (.iconst 0, 1) := by decide +kernel
theorem dX7_weaveIn_13 : decode cX7_weaveIn 13 = .ok (.istore 4, 2) := by decide +kernel
theorem dX7_weaveIn_15 : decode cX7_weaveIn 15 = .ok (.iload 4, 2) := by decide +kernel
theorem dX7_weaveIn_17 : decode cX7_weaveIn 17 = .ok (.sipush 500, 3) := by decide +kernel
theorem dX7_weaveIn_20 : decode cX7_weaveIn 20 = .ok (.if_icmp .ge 24, 3) := by decide +kernel
theorem dX7_weaveIn_23 : decode cX7_weaveIn 23 = .ok (.iload_n 3, 1) := by decide +kernel
theorem dX7_weaveIn_24 : decode cX7_weaveIn 24 = .ok (.ifCond .eq 20, 3) := by decide +kernel
theorem dX7_weaveIn_27 : decode cX7_weaveIn 27 = .ok (.aload_n 0, 1) := by decide +kernel
theorem dX7_weaveIn_28 : decode cX7_weaveIn 28 = .ok (.aload_n 1, 1) := by decide +kernel
theorem dX7_weaveIn_29 : decode cX7_weaveIn 29 = .ok (.invokevirtual 72, 3) := by decide +kernel
theorem dX7_weaveIn_32 : decode cX7_weaveIn 32 = .ok (.aload_n 0, 1) := by decide +kernel
theorem dX7_weaveIn_33 : decode cX7_weaveIn 33 = .ok (.aload_n 1, 1) := by decide +kernel
theorem dX7_weaveIn_34 : decode cX7_weaveIn 34 = .ok (.invokevirtual 76, 3) := by decide +kernel
theorem dX7_weaveIn_37 : decode cX7_weaveIn 37 = .ok (.istore_n 3, 1) := by decide +kernel
theorem dX7_weaveIn_38 : decode cX7_weaveIn 38 = .ok (.iinc 4 1, 3) := by decide +kernel
theorem dX7_weaveIn_41 : decode cX7_weaveIn 41 = .ok (.goto (-26), 3) := by decide +kernel
theorem dX7_weaveIn_44 : decode cX7_weaveIn 44 = .ok (.aload_n 0, 1) := by decide +kernel
theorem dX7_weaveIn_45 : decode cX7_weaveIn 45 = .ok (.getfield 59, 3) := by decide +kernel
theorem dX7_weaveIn_48 : decode cX7_weaveIn 48 = .ok (.sipush 1000, 3) := by decide +kernel
theorem dX7_weaveIn_51 : decode cX7_weaveIn 51 = .ok (.if_icmp .le 6, 3) := by decide +kernel
theorem dX7_weaveIn_54 : decode cX7_weaveIn 54 = .ok (.bipush (-3), 2) := by decide +kernel
theorem dX7_weaveIn_56 : decode cX7_weaveIn 56 = .ok (.ireturn, 1) := by decide +kernel
theorem dX7_weaveIn_57 : decode cX7_weaveIn 57 = .ok (.aload_n 0, 1) := by decide +kernel
theorem dX7_weaveIn_58 : decode cX7_weaveIn 58 = .ok (.aload_n 1, 1) := by decide +kernel
theorem dX7_weaveIn_59 : decode cX7_weaveIn 59 = .ok (.aload_n 2, 1) := by decide +kernel
theorem dX7_weaveIn_60 : decode cX7_weaveIn 60 = .ok (.invokevirtual 80, 3) := by decide +kernel
theorem dX7_weaveIn_63 : decode cX7_weaveIn 63 = .ok (.aload_n 0, 1) := by decide +kernel
theorem dX7_weaveIn_64 : decode cX7_weaveIn 64 = .ok (.getfield 59, 3) := by decide +kernel
theorem dX7_weaveIn_67 : decode cX7_weaveIn 67 = .ok (.ireturn, 1) := by decide +kernel
theorem dX7_startAnew_0 : decode cX7_startAnew 0 = .ok (.aload_n 0, 1) := by decide +kernel
theorem dX7_startAnew_1 : decode cX7_startAnew 1 = .ok (.getfield 9, 3) := by decide +kernel
theorem dX7_startAnew_4 : decode cX7_startAnew 4 = .ok (.iconst 0, 1) := by decide +kernel
theorem dX7_startAnew_5 : decode cX7_startAnew 5 = .ok (.invokestatic 83, 3) := by decide +kernel
theorem dX7_startAnew_8 : decode cX7_startAnew 8 = .ok (.aload_n 0, 1) := by decide +kernel
theorem dX7_startAnew_9 : decode cX7_startAnew 9 = .ok (.getfield 15, 3) := by decide +kernel
theorem dX7_startAnew_12 : decode cX7_startAnew 12 = .ok (.iconst 0, 1) := by decide +kernel
theorem dX7_startAnew_13 : decode cX7_startAnew 13 = .ok (.invokestatic 83, 3) := by decide +kernel
theorem dX7_startAnew_16 : decode cX7_startAnew 16 = .ok (.aload_n 0, 1) := by decide +kernel
theorem dX7_startAnew_17 : decode cX7_startAnew 17 = .ok (.getfield 18, 3) := by decide +kernel
theorem dX7_startAnew_20 : decode cX7_startAnew 20 = .ok (.iconst 0, 1) := by decide +kernel
theorem dX7_startAnew_21 : decode cX7_startAnew 21 = .ok (.invokestatic 83, 3) := by decide +kernel
theorem dX7_startAnew_24 : decode cX7_startAnew 24 = .ok (.aload_n 0, 1) := by decide +kernel
theorem dX7_startAnew_25 : decode cX7_startAnew 25 = .ok (.getfield 21, 3) := by decide +kernel
theorem dX7_startAnew_28 : decode cX7_startAnew 28 = .ok (.iconst 0, 1) := by decide +kernel
theorem dX7_startAnew_29 : decode cX7_startAnew 29 = .ok (.invokestatic 83, 3) := by decide +kernel
theorem dX7_startAnew_32 : decode cX7_startAnew 32 = .ok (.iconst 0, 1) := by decide +kernel
theorem dX7_startAnew_33 : decode cX7_startAnew 33 = .ok (.istore_n 1, 1) := by decide +kernel
theorem dX7_startAnew_34 : decode cX7_startAnew 34 = .ok (.iload_n 1, 1) := by decide +kernel
theorem dX7_startAnew_35 : decode cX7_startAnew 35 = .ok (.sipush 400, 3) := by decide +kernel
theorem dX7_startAnew_38 : decode cX7_startAnew 38 = .ok (.if_icmp .ge 23, 3) := by decide +kernel
theorem dX7_startAnew_41 : decode cX7_startAnew 41 = .ok (.aload_n 0, 1) := by decide +kernel
theorem dX7_startAnew_42 : decode cX7_startAnew 42 = .ok (.getfield 36, 3) := by decide +kernel
theorem dX7_startAnew_45 : decode cX7_startAnew 45 = .ok (.iload_n 1, 1) := by decide +kernel
theorem dX7_startAnew_46 : decode cX7_startAnew 46 = .ok (.iconst 0, 1) := by decide +kernel
theorem dX7_startAnew_47 : decode cX7_startAnew 47 = .ok (.bastore, 1) := by decide +kernel
theorem dX7_startAnew_48 : decode cX7_startAnew 48 = .ok (.aload_n 0, 1) := by decide +kernel
theorem dX7_startAnew_49 : decode cX7_startAnew 49 = .ok (.getfield 40, 3) := by decide +kernel
theorem dX7_startAnew_52 : decode cX7_startAnew 52 = .ok (.iload_n 1, 1) := by decide +kernel
theorem dX7_startAnew_53 : decode cX7_startAnew 53 = .ok (.iconst 0, 1) := by decide +kernel
theorem dX7_startAnew_54 : decode cX7_startAnew 54 = .ok (.bastore, 1) := by decide +kernel
theorem dX7_startAnew_55 : decode cX7_startAnew 55 = .ok (.iinc 1 1, 3) := by decide +kernel
theorem dX7_startAnew_58 : decode cX7_startAnew 58 = .ok (.goto (-24), 3) := by decide +kernel
theorem dX7_startAnew_61 : decode cX7_startAnew 61 = .ok (.iconst 0, 1) := by decide +kernel
theorem dX7_startAnew_62 : decode cX7_startAnew 62 = .ok (.istore_n 1, 1) := by decide +kernel
theorem dX7_startAnew_63 : decode cX7_startAnew 63 = .ok (.iload_n 1, 1) := by decide +kernel
theorem dX7_startAnew_64 : decode cX7_startAnew 64 = .ok (.bipush 8, 2) := by decide +kernel
theorem dX7_startAnew_66 : decode cX7_startAnew 66 = .ok (.if_icmp .ge 16, 3) := by decide +kernel
theorem dX7_startAnew_69 : decode cX7_startAnew 69 = .ok (.aload_n 0, 1) := by decide +kernel
theorem dX7_startAnew_70 : decode cX7_startAnew 70 = .ok (.getfield 43, 3) := by decide +kernel
theorem dX7_startAnew_73 : decode cX7_startAnew 73 = .ok (.iload_n 1, 1) := by decide +kernel
theorem dX7_startAnew_74 : decode cX7_startAnew 74 = .ok (.iconst 0, 1) := by decide +kernel
theorem dX7_startAnew_75 : decode cX7_startAnew 75 = .ok (.bastore, 1) := by decide +kernel
theorem dX7_startAnew_76 : decode cX7_startAnew 76 = .ok (.iinc 1 1, 3) := by decide +kernel
theorem dX7_startAnew_79 : decode cX7_startAnew 79 = .ok (.goto (-16), 3) := by decide +kernel
theorem dX7_startAnew_82 : decode cX7_startAnew 82 = .ok (.aload_n 0, 1) := by decide +kernel
theorem dX7_startAnew_83 : decode cX7_startAnew 83 = .ok (.iconst 0, 1) := by decide +kernel
theorem dX7_startAnew_84 : decode cX7_startAnew 84 = .ok (.putfield 46, 3) := by decide +kernel
theorem dX7_startAnew_87 : decode cX7_startAnew 87 = .ok (.aload_n 0, 1) := by decide +kernel
theorem dX7_startAnew_88 : decode cX7_startAnew 88 = .ok (.iconst 0, 1) := by decide +kernel
theorem dX7_startAnew_89 : decode cX7_startAnew 89 = .ok (.putfield 50, 3) := by decide +kernel
theorem dX7_startAnew_92 : decode cX7_startAnew 92 = .ok (.return_, 1) := by decide +kernel
theorem dX7_countProbes_0 : decode cX7_countProbes 0 = .ok (.iconst 0, 1) := by decide +kernel
theorem dX7_countProbes_1 : decode cX7_countProbes 1 = .ok (.istore_n 3, 1) := by decide +kernel
theorem dX7_countProbes_2 : decode cX7_countProbes 2 = .ok (.iload_n 3, 1) := by decide +kernel
theorem dX7_countProbes_3 : decode cX7_countProbes 3 = .ok (.aload_n 2, 1) := by decide +kernel
theorem dX7_countProbes_4 : decode cX7_countProbes 4 = .ok (.getfield 89, 3) := by decide +kernel
theorem dX7_countProbes_7 : decode cX7_countProbes 7 = .ok (.if_icmp .ge 57, 3) := by decide +kernel
theorem dX7_countProbes_10 : decode cX7_countProbes 10 = .ok (.iload_n 3, 1) := by decide +kernel
theorem dX7_countProbes_11 : decode cX7_countProbes 11 = .ok (.bipush 24, 2) := by decide +kernel
theorem dX7_countProbes_13 : decode cX7_countProbes 13 = .ok (.if_icmp .ge 51, 3) := by decide +kernel
theorem dX7_countProbes_16 : decode cX7_countProbes 16 = .ok (.aload_n 2, 1) := by decide +kernel
theorem dX7_countProbes_17 : decode cX7_countProbes 17 = .ok (.getfield 94, 3) := by decide +kernel
theorem dX7_countProbes_20 : decode cX7_countProbes 20 = .ok (.iload_n 3, 1) := by decide +kernel
theorem dX7_countProbes_21 : decode cX7_countProbes 21 = .ok (.iaload, 1) := by decide +kernel
theorem dX7_countProbes_22 : decode cX7_countProbes 22 = .ok (.istore 4, 2) := by decide +kernel
theorem dX7_countProbes_24 : decode cX7_countProbes 24 = .ok (.aload_n 2, 1) := by decide +kernel
theorem dX7_countProbes_25 : decode cX7_countProbes 25 = .ok (.getfield 97, 3) := by decide +kernel
theorem dX7_countProbes_28 : decode cX7_countProbes 28 = .ok (.iload_n 3, 1) := by decide +kernel
theorem dX7_countProbes_29 : decode cX7_countProbes 29 = .ok (.iaload, 1) := by decide +kernel
theorem dX7_countProbes_30 : decode cX7_countProbes 30 = .ok (.aload_n 1, 1) := by decide +kernel
theorem dX7_countProbes_31 : decode cX7_countProbes 31 = .ok (.getfield 100, 3) := by decide +kernel
theorem dX7_countProbes_34 : decode cX7_countProbes 34 = .ok (.if_icmp .ne 24, 3) := by decide +kernel
theorem dX7_countProbes_37 : decode cX7_countProbes 37 = .ok (.aload_n 1, 1) := by decide +kernel
theorem dX7_countProbes_38 : decode cX7_countProbes 38 = .ok (.iload 4, 2) := by decide +kernel
theorem dX7_countProbes_40 : decode cX7_countProbes 40 = .ok (.invokevirtual 105, 3) := by decide +kernel
theorem dX7_countProbes_43 : decode cX7_countProbes 43 = .ok (.ifCond .eq 15, 3) := by decide +kernel
theorem dX7_countProbes_46 : decode cX7_countProbes 46 = .ok (.aload_n 0, 1) := by decide +kernel
theorem dX7_countProbes_47 : decode cX7_countProbes 47 = .ok (.aload_n 2, 1) := by decide +kernel
theorem dX7_countProbes_48 : decode cX7_countProbes 48 = .ok (.getfield 109, 3) := by decide +kernel
theorem dX7_countProbes_51 : decode cX7_countProbes 51 = .ok (.iload_n 3, 1) := by decide +kernel
theorem dX7_countProbes_52 : decode cX7_countProbes 52 = .ok (.iaload, 1) := by decide +kernel
theorem dX7_countProbes_53 : decode cX7_countProbes 53 = .ok (.iload 4, 2) := by decide +kernel
theorem dX7_countProbes_55 : decode cX7_countProbes 55 = .ok (.invokevirtual 112, 3) := by decide +kernel
theorem dX7_countProbes_58 : decode cX7_countProbes 58 = .ok (.iinc 3 1, 3) := by decide +kernel
theorem dX7_countProbes_61 : decode cX7_countProbes 61 = .ok (.goto (-59), 3) := by decide +kernel
theorem dX7_countProbes_64 : decode cX7_countProbes 64 = .ok (.iconst 0, 1) := by decide +kernel
theorem dX7_countProbes_65 : decode cX7_countProbes 65 = .ok (.istore_n 3, 1) := by decide +kernel
theorem dX7_countProbes_66 : decode cX7_countProbes 66 = .ok (.iload_n 3, 1) := by decide +kernel
theorem dX7_countProbes_67 : decode cX7_countProbes 67 = .ok (.aload_n 1, 1) := by decide +kernel
theorem dX7_countProbes_68 : decode cX7_countProbes 68 = .ok (.getfield 116, 3) := by decide +kernel
theorem dX7_countProbes_71 : decode cX7_countProbes 71 = .ok (.if_icmp .ge 43, 3) := by decide +kernel
theorem dX7_countProbes_74 : decode cX7_countProbes 74 = .ok (.aload_n 1, 1) := by decide +kernel
theorem dX7_countProbes_75 : decode cX7_countProbes 75 = .ok (.iload_n 3, 1) := by decide +kernel
theorem dX7_countProbes_76 : decode cX7_countProbes 76 = .ok (.invokevirtual 105, 3) := by decide +kernel
theorem dX7_countProbes_79 : decode cX7_countProbes 79 = .ok (.ifCond .eq 29, 3) := by decide +kernel
theorem dX7_countProbes_82 : decode cX7_countProbes 82 = .ok (.aload_n 1, 1) := by decide +kernel
theorem dX7_countProbes_83 : decode cX7_countProbes 83 = .ok (.getfield 119, 3) := by decide +kernel
theorem dX7_countProbes_86 : decode cX7_countProbes 86 = .ok (.iload_n 3, 1) := by decide +kernel
theorem dX7_countProbes_87 : decode cX7_countProbes 87 = .ok (.iaload, 1) := by decide +kernel
theorem dX7_countProbes_88 : decode cX7_countProbes 88 = .ok (.bipush 42, 2) := by decide +kernel
theorem dX7_countProbes_90 : decode cX7_countProbes 90 = .ok (.if_icmp .ne 18, 3) := by decide +kernel
theorem dX7_countProbes_93 : decode cX7_countProbes 93 = .ok (.aload_n 0, 1) := by decide +kernel
theorem dX7_countProbes_94 : decode cX7_countProbes 94 = .ok (.getfield 9, 3) := by decide +kernel
theorem dX7_countProbes_97 : decode cX7_countProbes 97 = .ok (.iload_n 3, 1) := by decide +kernel
theorem dX7_countProbes_98 : decode cX7_countProbes 98 = .ok (.dup2, 1) := by decide +kernel
theorem dX7_countProbes_99 : decode cX7_countProbes 99 = .ok (.iaload, 1) := by decide +kernel
theorem dX7_countProbes_100 : decode cX7_countProbes 100 = .ok (.iconst 2, 1) := by decide +kernel
theorem dX7_countProbes_101 : decode cX7_countProbes 101 = .ok (.aload_n 0, 1) := by decide +kernel
theorem dX7_countProbes_102 : decode cX7_countProbes 102 = .ok (.getfield 50, 3) := by decide +kernel
theorem dX7_countProbes_105 : decode cX7_countProbes 105 = .ok (.imul, 1) := by decide +kernel
theorem dX7_countProbes_106 : decode cX7_countProbes 106 = .ok (.iadd, 1) := by decide +kernel
theorem dX7_countProbes_107 : decode cX7_countProbes 107 = .ok (.iastore, 1) := by decide +kernel
theorem dX7_countProbes_108 : decode cX7_countProbes 108 = .ok (.iinc 3 1, 3) := by decide +kernel
theorem dX7_countProbes_111 : decode cX7_countProbes 111 = .ok (.goto (-45), 3) := by decide +kernel
theorem dX7_countProbes_114 : decode cX7_countProbes 114 = .ok (.return_, 1) := by decide +kernel
theorem dX7_countProbe_0 : decode cX7_countProbe 0 = .ok (.iload_n 1, 1) := by decide +kernel
theorem dX7_countProbe_1 : decode cX7_countProbe 1 = .ok (.tableswitch 141 0 6 #[43, 56, 79, 92, 105, 128, 43], 43) := by decide +kernel
theorem dX7_countProbe_44 : decode cX7_countProbe 44 = .ok (.aload_n 0, 1) := by decide +kernel
theorem dX7_countProbe_45 : decode cX7_countProbe 45 = .ok (.getfield 9, 3) := by decide +kernel
theorem dX7_countProbe_48 : decode cX7_countProbe 48 = .ok (.iload_n 2, 1) := by decide +kernel
theorem dX7_countProbe_49 : decode cX7_countProbe 49 = .ok (.dup2, 1) := by decide +kernel
theorem dX7_countProbe_50 : decode cX7_countProbe 50 = .ok (.iaload, 1) := by decide +kernel
theorem dX7_countProbe_51 : decode cX7_countProbe 51 = .ok (.iconst 2, 1) := by decide +kernel
theorem dX7_countProbe_52 : decode cX7_countProbe 52 = .ok (.iadd, 1) := by decide +kernel
theorem dX7_countProbe_53 : decode cX7_countProbe 53 = .ok (.iastore, 1) := by decide +kernel
theorem dX7_countProbe_54 : decode cX7_countProbe 54 = .ok (.goto 98, 3) := by decide +kernel
theorem dX7_countProbe_57 : decode cX7_countProbe 57 = .ok (.aload_n 0, 1) := by decide +kernel
theorem dX7_countProbe_58 : decode cX7_countProbe 58 = .ok (.getfield 15, 3) := by decide +kernel
theorem dX7_countProbe_61 : decode cX7_countProbe 61 = .ok (.iload_n 2, 1) := by decide +kernel
theorem dX7_countProbe_62 : decode cX7_countProbe 62 = .ok (.dup2, 1) := by decide +kernel
theorem dX7_countProbe_63 : decode cX7_countProbe 63 = .ok (.iaload, 1) := by decide +kernel
theorem dX7_countProbe_64 : decode cX7_countProbe 64 = .ok (.iconst 3, 1) := by decide +kernel
theorem dX7_countProbe_65 : decode cX7_countProbe 65 = .ok (.iadd, 1) := by decide +kernel
theorem dX7_countProbe_66 : decode cX7_countProbe 66 = .ok (.iastore, 1) := by decide +kernel
theorem dX7_countProbe_67 : decode cX7_countProbe 67 = .ok (.aload_n 0, 1) := by decide +kernel
theorem dX7_countProbe_68 : decode cX7_countProbe 68 = .ok (.getfield 18, 3) := by decide +kernel
theorem dX7_countProbe_71 : decode cX7_countProbe 71 = .ok (.iload_n 2, 1) := by decide +kernel
theorem dX7_countProbe_72 : decode cX7_countProbe 72 = .ok (.dup2, 1) := by decide +kernel
theorem dX7_countProbe_73 : decode cX7_countProbe 73 = .ok (.iaload, 1) := by decide +kernel
theorem dX7_countProbe_74 : decode cX7_countProbe 74 = .ok (.iconst 1, 1) := by decide +kernel
theorem dX7_countProbe_75 : decode cX7_countProbe 75 = .ok (.iadd, 1) := by decide +kernel
theorem dX7_countProbe_76 : decode cX7_countProbe 76 = .ok (.iastore, 1) := by decide +kernel
theorem dX7_countProbe_77 : decode cX7_countProbe 77 = .ok (.goto 75, 3) := by decide +kernel
theorem dX7_countProbe_80 : decode cX7_countProbe 80 = .ok (.aload_n 0, 1) := by decide +kernel
theorem dX7_countProbe_81 : decode cX7_countProbe 81 = .ok (.dup, 1) := by decide +kernel
theorem dX7_countProbe_82 : decode cX7_countProbe 82 = .ok (.getfield 46, 3) := by decide +kernel
theorem dX7_countProbe_85 : decode cX7_countProbe 85 = .ok (.iconst 1, 1) := by decide +kernel
theorem dX7_countProbe_86 : decode cX7_countProbe 86 = .ok (.iadd, 1) := by decide +kernel
theorem dX7_countProbe_87 : decode cX7_countProbe 87 = .ok (.putfield 46, 3) := by decide +kernel
theorem dX7_countProbe_90 : decode cX7_countProbe 90 = .ok (.goto 62, 3) := by decide +kernel
theorem dX7_countProbe_93 : decode cX7_countProbe 93 = .ok (.aload_n 0, 1) := by decide +kernel
theorem dX7_countProbe_94 : decode cX7_countProbe 94 = .ok (.dup, 1) := by decide +kernel
theorem dX7_countProbe_95 : decode cX7_countProbe 95 = .ok (.getfield 50, 3) := by decide +kernel
theorem dX7_countProbe_98 : decode cX7_countProbe 98 = .ok (.iconst 1, 1) := by decide +kernel
theorem dX7_countProbe_99 : decode cX7_countProbe 99 = .ok (.iadd, 1) := by decide +kernel
theorem dX7_countProbe_100 : decode cX7_countProbe 100 = .ok (.putfield 50, 3) := by decide +kernel
theorem dX7_countProbe_103 : decode cX7_countProbe 103 = .ok (.goto 49, 3) := by decide +kernel
theorem dX7_countProbe_106 : decode cX7_countProbe 106 = .ok (.aload_n 0, 1) := by decide +kernel
theorem dX7_countProbe_107 : decode cX7_countProbe 107 = .ok (.getfield 9, 3) := by decide +kernel
theorem dX7_countProbe_110 : decode cX7_countProbe 110 = .ok (.iload_n 2, 1) := by decide +kernel
theorem dX7_countProbe_111 : decode cX7_countProbe 111 = .ok (.dup2, 1) := by decide +kernel
theorem dX7_countProbe_112 : decode cX7_countProbe 112 = .ok (.iaload, 1) := by decide +kernel
theorem dX7_countProbe_113 : decode cX7_countProbe 113 = .ok (.iconst 2, 1) := by decide +kernel
theorem dX7_countProbe_114 : decode cX7_countProbe 114 = .ok (.iadd, 1) := by decide +kernel
theorem dX7_countProbe_115 : decode cX7_countProbe 115 = .ok (.iastore, 1) := by decide +kernel
theorem dX7_countProbe_116 : decode cX7_countProbe 116 = .ok (.aload_n 0, 1) := by decide +kernel
theorem dX7_countProbe_117 : decode cX7_countProbe 117 = .ok (.getfield 15, 3) := by decide +kernel
theorem dX7_countProbe_120 : decode cX7_countProbe 120 = .ok (.iload_n 2, 1) := by decide +kernel
theorem dX7_countProbe_121 : decode cX7_countProbe 121 = .ok (.dup2, 1) := by decide +kernel
theorem dX7_countProbe_122 : decode cX7_countProbe 122 = .ok (.iaload, 1) := by decide +kernel
theorem dX7_countProbe_123 : decode cX7_countProbe 123 = .ok (.iconst 2, 1) := by decide +kernel
theorem dX7_countProbe_124 : decode cX7_countProbe 124 = .ok (.iadd, 1) := by decide +kernel
theorem dX7_countProbe_125 : decode cX7_countProbe 125 = .ok (.iastore, 1) := by decide +kernel
theorem dX7_countProbe_126 : decode cX7_countProbe 126 = .ok (.goto 26, 3) := by decide +kernel
theorem dX7_countProbe_129 : decode cX7_countProbe 129 = .ok (.aload_n 0, 1) := by decide +kernel
theorem dX7_countProbe_130 : decode cX7_countProbe 130 = .ok (.getfield 21, 3) := by decide +kernel
theorem dX7_countProbe_133 : decode cX7_countProbe 133 = .ok (.iload_n 2, 1) := by decide +kernel
theorem dX7_countProbe_134 : decode cX7_countProbe 134 = .ok (.dup2, 1) := by decide +kernel
theorem dX7_countProbe_135 : decode cX7_countProbe 135 = .ok (.iaload, 1) := by decide +kernel
theorem dX7_countProbe_136 : decode cX7_countProbe 136 = .ok (.iconst 1, 1) := by decide +kernel
theorem dX7_countProbe_137 : decode cX7_countProbe 137 = .ok (.iadd, 1) := by decide +kernel
theorem dX7_countProbe_138 : decode cX7_countProbe 138 = .ok (.iastore, 1) := by decide +kernel
theorem dX7_countProbe_139 : decode cX7_countProbe 139 = .ok (.goto 13, 3) := by decide +kernel
theorem dX7_countProbe_142 : decode cX7_countProbe 142 = .ok (.aload_n 0, 1) := by decide +kernel
theorem dX7_countProbe_143 : decode cX7_countProbe 143 = .ok (.getfield 15, 3) := by decide +kernel
theorem dX7_countProbe_146 : decode cX7_countProbe 146 = .ok (.iload_n 2, 1) := by decide +kernel
theorem dX7_countProbe_147 : decode cX7_countProbe 147 = .ok (.dup2, 1) := by decide +kernel
theorem dX7_countProbe_148 : decode cX7_countProbe 148 = .ok (.iaload, 1) := by decide +kernel
theorem dX7_countProbe_149 : decode cX7_countProbe 149 = .ok (.iconst 2, 1) := by decide +kernel
theorem dX7_countProbe_150 : decode cX7_countProbe 150 = .ok (.iadd, 1) := by decide +kernel
theorem dX7_countProbe_151 : decode cX7_countProbe 151 = .ok (.iastore, 1) := by decide +kernel
theorem dX7_countProbe_152 : decode cX7_countProbe 152 = .ok (.return_, 1) := by decide +kernel
theorem dX7_layAll_0 : decode cX7_layAll 0 = .ok (.iconst 2, 1) := by decide +kernel
theorem dX7_layAll_1 : decode cX7_layAll 1 = .ok (.aload_n 0, 1) := by decide +kernel
theorem dX7_layAll_2 : decode cX7_layAll 2 = .ok (.getfield 46, 3) := by decide +kernel
theorem dX7_layAll_5 : decode cX7_layAll 5 = .ok (.imul, 1) := by decide +kernel
theorem dX7_layAll_6 : decode cX7_layAll 6 = .ok (.istore_n 2, 1) := by decide +kernel
theorem dX7_layAll_7 : decode cX7_layAll 7 = .ok (.iconst 0, 1) := by decide +kernel
theorem dX7_layAll_8 : decode cX7_layAll 8 = .ok (.istore_n 3, 1) := by decide +kernel
theorem dX7_layAll_9 : decode cX7_layAll 9 = .ok (.iload_n 3, 1) := by decide +kernel
theorem dX7_layAll_10 : decode cX7_layAll 10 = .ok (.aload_n 1, 1) := by decide +kernel
theorem dX7_layAll_11 : decode cX7_layAll 11 = .ok (.getfield 116, 3) := by decide +kernel
theorem dX7_layAll_14 : decode cX7_layAll 14 = .ok (.if_icmp .ge 74, 3) := by decide +kernel
theorem dX7_layAll_17 : decode cX7_layAll 17 = .ok (.aload_n 1, 1) := by decide +kernel
theorem dX7_layAll_18 : decode cX7_layAll 18 = .ok (.iload_n 3, 1) := by decide +kernel
theorem dX7_layAll_19 : decode cX7_layAll 19 = .ok (.invokevirtual 105, 3) := by decide +kernel
theorem dX7_layAll_22 : decode cX7_layAll 22 = .ok (.ifCond .eq 60, 3) := by decide +kernel
theorem dX7_layAll_25 : decode cX7_layAll 25 = .ok (.aload_n 0, 1) := by decide +kernel
theorem dX7_layAll_26 : decode cX7_layAll 26 = .ok (.getfield 24, 3) := by decide +kernel
theorem dX7_layAll_29 : decode cX7_layAll 29 = .ok (.iload_n 3, 1) := by decide +kernel
theorem dX7_layAll_30 : decode cX7_layAll 30 = .ok (.iload_n 2, 1) := by decide +kernel
theorem dX7_layAll_31 : decode cX7_layAll 31 = .ok (.iastore, 1) := by decide +kernel
theorem dX7_layAll_32 : decode cX7_layAll 32 = .ok (.aload_n 0, 1) := by decide +kernel
theorem dX7_layAll_33 : decode cX7_layAll 33 = .ok (.getfield 27, 3) := by decide +kernel
theorem dX7_layAll_36 : decode cX7_layAll 36 = .ok (.iload_n 3, 1) := by decide +kernel
theorem dX7_layAll_37 : decode cX7_layAll 37 = .ok (.iload_n 2, 1) := by decide +kernel
theorem dX7_layAll_38 : decode cX7_layAll 38 = .ok (.aload_n 0, 1) := by decide +kernel
theorem dX7_layAll_39 : decode cX7_layAll 39 = .ok (.getfield 9, 3) := by decide +kernel
theorem dX7_layAll_42 : decode cX7_layAll 42 = .ok (.iload_n 3, 1) := by decide +kernel
theorem dX7_layAll_43 : decode cX7_layAll 43 = .ok (.iaload, 1) := by decide +kernel
theorem dX7_layAll_44 : decode cX7_layAll 44 = .ok (.iadd, 1) := by decide +kernel
theorem dX7_layAll_45 : decode cX7_layAll 45 = .ok (.iastore, 1) := by decide +kernel
theorem dX7_layAll_46 : decode cX7_layAll 46 = .ok (.aload_n 0, 1) := by decide +kernel
theorem dX7_layAll_47 : decode cX7_layAll 47 = .ok (.getfield 27, 3) := by decide +kernel
theorem dX7_layAll_50 : decode cX7_layAll 50 = .ok (.iload_n 3, 1) := by decide +kernel
theorem dX7_layAll_51 : decode cX7_layAll 51 = .ok (.iaload, 1) := by decide +kernel
theorem dX7_layAll_52 : decode cX7_layAll 52 = .ok (.aload_n 1, 1) := by decide +kernel
theorem dX7_layAll_53 : decode cX7_layAll 53 = .ok (.getfield 122, 3) := by decide +kernel
theorem dX7_layAll_56 : decode cX7_layAll 56 = .ok (.iload_n 3, 1) := by decide +kernel
theorem dX7_layAll_57 : decode cX7_layAll 57 = .ok (.iaload, 1) := by decide +kernel
theorem dX7_layAll_58 : decode cX7_layAll 58 = .ok (.iadd, 1) := by decide +kernel
theorem dX7_layAll_59 : decode cX7_layAll 59 = .ok (.aload_n 0, 1) := by decide +kernel
theorem dX7_layAll_60 : decode cX7_layAll 60 = .ok (.getfield 36, 3) := by decide +kernel
theorem dX7_layAll_63 : decode cX7_layAll 63 = .ok (.iload_n 3, 1) := by decide +kernel
theorem dX7_layAll_64 : decode cX7_layAll 64 = .ok (.baload, 1) := by decide +kernel
theorem dX7_layAll_65 : decode cX7_layAll 65 = .ok (.ifCond .eq 7, 3) := by decide +kernel
theorem dX7_layAll_68 : decode cX7_layAll 68 = .ok (.iconst 1, 1) := by decide +kernel
theorem dX7_layAll_69 : decode cX7_layAll 69 = .ok (.goto 4, 3) := by decide +kernel
theorem dX7_layAll_72 : decode cX7_layAll 72 = .ok (.iconst 0, 1) := by decide +kernel
theorem dX7_layAll_73 : decode cX7_layAll 73 = .ok (.iadd, 1) := by decide +kernel
theorem dX7_layAll_74 : decode cX7_layAll 74 = .ok (.aload_n 0, 1) := by decide +kernel
theorem dX7_layAll_75 : decode cX7_layAll 75 = .ok (.getfield 15, 3) := by decide +kernel
theorem dX7_layAll_78 : decode cX7_layAll 78 = .ok (.iload_n 3, 1) := by decide +kernel
theorem dX7_layAll_79 : decode cX7_layAll 79 = .ok (.iaload, 1) := by decide +kernel
theorem dX7_layAll_80 : decode cX7_layAll 80 = .ok (.iadd, 1) := by decide +kernel
theorem dX7_layAll_81 : decode cX7_layAll 81 = .ok (.istore_n 2, 1) := by decide +kernel
theorem dX7_layAll_82 : decode cX7_layAll 82 = .ok (.iinc 3 1, 3) := by decide +kernel
theorem dX7_layAll_85 : decode cX7_layAll 85 = .ok (.goto (-76), 3) := by decide +kernel
theorem dX7_layAll_88 : decode cX7_layAll 88 = .ok (.aload_n 0, 1) := by decide +kernel
theorem dX7_layAll_89 : decode cX7_layAll 89 = .ok (.getfield 24, 3) := by decide +kernel
theorem dX7_layAll_92 : decode cX7_layAll 92 = .ok (.aload_n 1, 1) := by decide +kernel
theorem dX7_layAll_93 : decode cX7_layAll 93 = .ok (.getfield 116, 3) := by decide +kernel
theorem dX7_layAll_96 : decode cX7_layAll 96 = .ok (.iload_n 2, 1) := by decide +kernel
theorem dX7_layAll_97 : decode cX7_layAll 97 = .ok (.iastore, 1) := by decide +kernel
theorem dX7_layAll_98 : decode cX7_layAll 98 = .ok (.aload_n 0, 1) := by decide +kernel
theorem dX7_layAll_99 : decode cX7_layAll 99 = .ok (.iconst 0, 1) := by decide +kernel
theorem dX7_layAll_100 : decode cX7_layAll 100 = .ok (.putfield 53, 3) := by decide +kernel
theorem dX7_layAll_103 : decode cX7_layAll 103 = .ok (.iconst 0, 1) := by decide +kernel
theorem dX7_layAll_104 : decode cX7_layAll 104 = .ok (.istore_n 3, 1) := by decide +kernel
theorem dX7_layAll_105 : decode cX7_layAll 105 = .ok (.iload_n 3, 1) := by decide +kernel
theorem dX7_layAll_106 : decode cX7_layAll 106 = .ok (.aload_n 1, 1) := by decide +kernel
theorem dX7_layAll_107 : decode cX7_layAll 107 = .ok (.getfield 116, 3) := by decide +kernel
theorem dX7_layAll_110 : decode cX7_layAll 110 = .ok (.if_icmp .ge 61, 3) := by decide +kernel
theorem dX7_layAll_113 : decode cX7_layAll 113 = .ok (.aload_n 0, 1) := by decide +kernel
theorem dX7_layAll_114 : decode cX7_layAll 114 = .ok (.getfield 18, 3) := by decide +kernel
theorem dX7_layAll_117 : decode cX7_layAll 117 = .ok (.iload_n 3, 1) := by decide +kernel
theorem dX7_layAll_118 : decode cX7_layAll 118 = .ok (.iaload, 1) := by decide +kernel
theorem dX7_layAll_119 : decode cX7_layAll 119 = .ok (.ifCond .le 46, 3) := by decide +kernel
theorem dX7_layAll_122 : decode cX7_layAll 122 = .ok (.aload_n 0, 1) := by decide +kernel
theorem dX7_layAll_123 : decode cX7_layAll 123 = .ok (.getfield 30, 3) := by decide +kernel
theorem dX7_layAll_126 : decode cX7_layAll 126 = .ok (.iload_n 3, 1) := by decide +kernel
theorem dX7_layAll_127 : decode cX7_layAll 127 = .ok (.iload_n 2, 1) := by decide +kernel
theorem dX7_layAll_128 : decode cX7_layAll 128 = .ok (.iastore, 1) := by decide +kernel
theorem dX7_layAll_129 : decode cX7_layAll 129 = .ok (.iload_n 2, 1) := by decide +kernel
theorem dX7_layAll_130 : decode cX7_layAll 130 = .ok (.iconst 3, 1) := by decide +kernel
theorem dX7_layAll_131 : decode cX7_layAll 131 = .ok (.aload_n 0, 1) := by decide +kernel
theorem dX7_layAll_132 : decode cX7_layAll 132 = .ok (.getfield 18, 3) := by decide +kernel
theorem dX7_layAll_135 : decode cX7_layAll 135 = .ok (.iload_n 3, 1) := by decide +kernel
theorem dX7_layAll_136 : decode cX7_layAll 136 = .ok (.iaload, 1) := by decide +kernel
theorem dX7_layAll_137 : decode cX7_layAll 137 = .ok (.imul, 1) := by decide +kernel
theorem dX7_layAll_138 : decode cX7_layAll 138 = .ok (.aload_n 0, 1) := by decide +kernel
theorem dX7_layAll_139 : decode cX7_layAll 139 = .ok (.getfield 40, 3) := by decide +kernel
theorem dX7_layAll_142 : decode cX7_layAll 142 = .ok (.iload_n 3, 1) := by decide +kernel
theorem dX7_layAll_143 : decode cX7_layAll 143 = .ok (.baload, 1) := by decide +kernel
theorem dX7_layAll_144 : decode cX7_layAll 144 = .ok (.ifCond .eq 7, 3) := by decide +kernel
theorem dX7_layAll_147 : decode cX7_layAll 147 = .ok (.iconst 3, 1) := by decide +kernel
theorem dX7_layAll_148 : decode cX7_layAll 148 = .ok (.goto 4, 3) := by decide +kernel
theorem dX7_layAll_151 : decode cX7_layAll 151 = .ok (.iconst 2, 1) := by decide +kernel
theorem dX7_layAll_152 : decode cX7_layAll 152 = .ok (.iadd, 1) := by decide +kernel
theorem dX7_layAll_153 : decode cX7_layAll 153 = .ok (.iadd, 1) := by decide +kernel
theorem dX7_layAll_154 : decode cX7_layAll 154 = .ok (.istore_n 2, 1) := by decide +kernel
theorem dX7_layAll_155 : decode cX7_layAll 155 = .ok (.aload_n 0, 1) := by decide +kernel
theorem dX7_layAll_156 : decode cX7_layAll 156 = .ok (.dup, 1) := by decide +kernel
theorem dX7_layAll_157 : decode cX7_layAll 157 = .ok (.getfield 53, 3) := by decide +kernel
theorem dX7_layAll_160 : decode cX7_layAll 160 = .ok (.iconst 1, 1) := by decide +kernel
theorem dX7_layAll_161 : decode cX7_layAll 161 = .ok (.iadd, 1) := by decide +kernel
theorem dX7_layAll_162 : decode cX7_layAll 162 = .ok (.putfield 53, 3) := by decide +kernel
theorem dX7_layAll_165 : decode cX7_layAll 165 = .ok (.iinc 3 1, 3) := by decide +kernel
theorem dX7_layAll_168 : decode cX7_layAll 168 = .ok (.goto (-63), 3) := by decide +kernel
theorem dX7_layAll_171 : decode cX7_layAll 171 = .ok (.iconst 0, 1) := by decide +kernel
theorem dX7_layAll_172 : decode cX7_layAll 172 = .ok (.istore_n 3, 1) := by decide +kernel
theorem dX7_layAll_173 : decode cX7_layAll 173 = .ok (.iload_n 3, 1) := by decide +kernel
theorem dX7_layAll_174 : decode cX7_layAll 174 = .ok (.aload_n 1, 1) := by decide +kernel
theorem dX7_layAll_175 : decode cX7_layAll 175 = .ok (.getfield 125, 3) := by decide +kernel
theorem dX7_layAll_178 : decode cX7_layAll 178 = .ok (.if_icmp .ge 61, 3) := by decide +kernel
theorem dX7_layAll_181 : decode cX7_layAll 181 = .ok (.aload_n 0, 1) := by decide +kernel
theorem dX7_layAll_182 : decode cX7_layAll 182 = .ok (.aload_n 1, 1) := by decide +kernel
theorem dX7_layAll_183 : decode cX7_layAll 183 = .ok (.iload_n 3, 1) := by decide +kernel
theorem dX7_layAll_184 : decode cX7_layAll 184 = .ok (.invokevirtual 128, 3) := by decide +kernel
theorem dX7_layAll_187 : decode cX7_layAll 187 = .ok (.istore 4, 2) := by decide +kernel
theorem dX7_layAll_189 : decode cX7_layAll 189 = .ok (.iload 4, 2) := by decide +kernel
theorem dX7_layAll_191 : decode cX7_layAll 191 = .ok (.ifCond .le 42, 3) := by decide +kernel
theorem dX7_layAll_194 : decode cX7_layAll 194 = .ok (.aload_n 0, 1) := by decide +kernel
theorem dX7_layAll_195 : decode cX7_layAll 195 = .ok (.getfield 33, 3) := by decide +kernel
theorem dX7_layAll_198 : decode cX7_layAll 198 = .ok (.iload_n 3, 1) := by decide +kernel
theorem dX7_layAll_199 : decode cX7_layAll 199 = .ok (.iload_n 2, 1) := by decide +kernel
theorem dX7_layAll_200 : decode cX7_layAll 200 = .ok (.iastore, 1) := by decide +kernel
theorem dX7_layAll_201 : decode cX7_layAll 201 = .ok (.iload_n 2, 1) := by decide +kernel
theorem dX7_layAll_202 : decode cX7_layAll 202 = .ok (.iconst 2, 1) := by decide +kernel
theorem dX7_layAll_203 : decode cX7_layAll 203 = .ok (.iload 4, 2) := by decide +kernel
theorem dX7_layAll_205 : decode cX7_layAll 205 = .ok (.imul, 1) := by decide +kernel
theorem dX7_layAll_206 : decode cX7_layAll 206 = .ok (.aload_n 0, 1) := by decide +kernel
theorem dX7_layAll_207 : decode cX7_layAll 207 = .ok (.getfield 43, 3) := by decide +kernel
theorem dX7_layAll_210 : decode cX7_layAll 210 = .ok (.iload_n 3, 1) := by decide +kernel
theorem dX7_layAll_211 : decode cX7_layAll 211 = .ok (.baload, 1) := by decide +kernel
theorem dX7_layAll_212 : decode cX7_layAll 212 = .ok (.ifCond .eq 7, 3) := by decide +kernel
theorem dX7_layAll_215 : decode cX7_layAll 215 = .ok (.iconst 3, 1) := by decide +kernel
theorem dX7_layAll_216 : decode cX7_layAll 216 = .ok (.goto 4, 3) := by decide +kernel
theorem dX7_layAll_219 : decode cX7_layAll 219 = .ok (.iconst 2, 1) := by decide +kernel
theorem dX7_layAll_220 : decode cX7_layAll 220 = .ok (.iadd, 1) := by decide +kernel
theorem dX7_layAll_221 : decode cX7_layAll 221 = .ok (.iadd, 1) := by decide +kernel
theorem dX7_layAll_222 : decode cX7_layAll 222 = .ok (.istore_n 2, 1) := by decide +kernel
theorem dX7_layAll_223 : decode cX7_layAll 223 = .ok (.aload_n 0, 1) := by decide +kernel
theorem dX7_layAll_224 : decode cX7_layAll 224 = .ok (.dup, 1) := by decide +kernel
theorem dX7_layAll_225 : decode cX7_layAll 225 = .ok (.getfield 53, 3) := by decide +kernel
theorem dX7_layAll_228 : decode cX7_layAll 228 = .ok (.iconst 1, 1) := by decide +kernel
theorem dX7_layAll_229 : decode cX7_layAll 229 = .ok (.iadd, 1) := by decide +kernel
theorem dX7_layAll_230 : decode cX7_layAll 230 = .ok (.putfield 53, 3) := by decide +kernel
theorem dX7_layAll_233 : decode cX7_layAll 233 = .ok (.iinc 3 1, 3) := by decide +kernel
theorem dX7_layAll_236 : decode cX7_layAll 236 = .ok (.goto (-63), 3) := by decide +kernel
theorem dX7_layAll_239 : decode cX7_layAll 239 = .ok (.aload_n 0, 1) := by decide +kernel
theorem dX7_layAll_240 : decode cX7_layAll 240 = .ok (.iload_n 2, 1) := by decide +kernel
theorem dX7_layAll_241 : decode cX7_layAll 241 = .ok (.putfield 56, 3) := by decide +kernel
theorem dX7_layAll_244 : decode cX7_layAll 244 = .ok (.aload_n 0, 1) := by decide +kernel
theorem dX7_layAll_245 : decode cX7_layAll 245 = .ok (.getfield 50, 3) := by decide +kernel
theorem dX7_layAll_248 : decode cX7_layAll 248 = .ok (.ifCond .le 24, 3) := by decide +kernel
theorem dX7_layAll_251 : decode cX7_layAll 251 = .ok (.iload_n 2, 1) := by decide +kernel
theorem dX7_layAll_252 : decode cX7_layAll 252 = .ok (.iconst 2, 1) := by decide +kernel
theorem dX7_layAll_253 : decode cX7_layAll 253 = .ok (.aload_n 0, 1) := by decide +kernel
theorem dX7_layAll_254 : decode cX7_layAll 254 = .ok (.getfield 50, 3) := by decide +kernel
theorem dX7_layAll_257 : decode cX7_layAll 257 = .ok (.imul, 1) := by decide +kernel
theorem dX7_layAll_258 : decode cX7_layAll 258 = .ok (.iconst 1, 1) := by decide +kernel
theorem dX7_layAll_259 : decode cX7_layAll 259 = .ok (.iadd, 1) := by decide +kernel
theorem dX7_layAll_260 : decode cX7_layAll 260 = .ok (.iadd, 1) := by decide +kernel
theorem dX7_layAll_261 : decode cX7_layAll 261 = .ok (.istore_n 2, 1) := by decide +kernel
theorem dX7_layAll_262 : decode cX7_layAll 262 = .ok (.aload_n 0, 1) := by decide +kernel
theorem dX7_layAll_263 : decode cX7_layAll 263 = .ok (.dup, 1) := by decide +kernel
theorem dX7_layAll_264 : decode cX7_layAll 264 = .ok (.getfield 53, 3) := by decide +kernel
theorem dX7_layAll_267 : decode cX7_layAll 267 = .ok (.iconst 1, 1) := by decide +kernel
theorem dX7_layAll_268 : decode cX7_layAll 268 = .ok (.iadd, 1) := by decide +kernel
theorem dX7_layAll_269 : decode cX7_layAll 269 = .ok (.putfield 53, 3) := by decide +kernel
theorem dX7_layAll_272 : decode cX7_layAll 272 = .ok (.aload_n 0, 1) := by decide +kernel
theorem dX7_layAll_273 : decode cX7_layAll 273 = .ok (.iload_n 2, 1) := by decide +kernel
theorem dX7_layAll_274 : decode cX7_layAll 274 = .ok (.putfield 59, 3) := by decide +kernel
theorem dX7_layAll_277 : decode cX7_layAll 277 = .ok (.return_, 1) := by decide +kernel
theorem dX7_caughtAt_0 : decode cX7_caughtAt 0 = .ok (.aload_n 1, 1) := by decide +kernel
theorem dX7_caughtAt_1 : decode cX7_caughtAt 1 = .ok (.getfield 132, 3) := by decide +kernel
theorem dX7_caughtAt_4 : decode cX7_caughtAt 4 = .ok (.iload_n 2, 1) := by decide +kernel
theorem dX7_caughtAt_5 : decode cX7_caughtAt 5 = .ok (.iconst 2, 1) := by decide +kernel
theorem dX7_caughtAt_6 : decode cX7_caughtAt 6 = .ok (.invokestatic 135, 3) := by decide +kernel
theorem dX7_caughtAt_9 : decode cX7_caughtAt 9 = .ok (.istore_n 3, 1) := by decide +kernel
theorem dX7_caughtAt_10 : decode cX7_caughtAt 10 = .ok (.aload_n 1, 1) := by decide +kernel
theorem dX7_caughtAt_11 : decode cX7_caughtAt 11 = .ok (.iload_n 3, 1) := by decide +kernel
theorem dX7_caughtAt_12 : decode cX7_caughtAt 12 = .ok (.invokevirtual 105, 3) := by decide +kernel
theorem dX7_caughtAt_15 : decode cX7_caughtAt 15 = .ok (.ifCond .eq 12, 3) := by decide +kernel
theorem dX7_caughtAt_18 : decode cX7_caughtAt 18 = .ok (.aload_n 0, 1) := by decide +kernel
theorem dX7_caughtAt_19 : decode cX7_caughtAt 19 = .ok (.getfield 21, 3) := by decide +kernel
theorem dX7_caughtAt_22 : decode cX7_caughtAt 22 = .ok (.iload_n 3, 1) := by decide +kernel
theorem dX7_caughtAt_23 : decode cX7_caughtAt 23 = .ok (.iaload, 1) := by decide +kernel
theorem dX7_caughtAt_24 : decode cX7_caughtAt 24 = .ok (.goto 4, 3) := by decide +kernel
theorem dX7_caughtAt_27 : decode cX7_caughtAt 27 = .ok (.iconst 0, 1) := by decide +kernel
theorem dX7_caughtAt_28 : decode cX7_caughtAt 28 = .ok (.ireturn, 1) := by decide +kernel
theorem dX7_groupAt_0 : decode cX7_groupAt 0 = .ok (.iload_n 1, 1) := by decide +kernel
theorem dX7_groupAt_1 : decode cX7_groupAt 1 = .ok (.ifCond .lt 19, 3) := by decide +kernel
theorem dX7_groupAt_4 : decode cX7_groupAt 4 = .ok (.iload_n 1, 1) := by decide +kernel
theorem dX7_groupAt_5 : decode cX7_groupAt 5 = .ok (.sipush 400, 3) := by decide +kernel
theorem dX7_groupAt_8 : decode cX7_groupAt 8 = .ok (.if_icmp .gt 12, 3) := by decide +kernel
theorem dX7_groupAt_11 : decode cX7_groupAt 11 = .ok (.aload_n 0, 1) := by decide +kernel
theorem dX7_groupAt_12 : decode cX7_groupAt 12 = .ok (.getfield 24, 3) := by decide +kernel
theorem dX7_groupAt_15 : decode cX7_groupAt 15 = .ok (.iload_n 1, 1) := by decide +kernel
theorem dX7_groupAt_16 : decode cX7_groupAt 16 = .ok (.iaload, 1) := by decide +kernel
theorem dX7_groupAt_17 : decode cX7_groupAt 17 = .ok (.goto 4, 3) := by decide +kernel
theorem dX7_groupAt_20 : decode cX7_groupAt 20 = .ok (.iconst 0, 1) := by decide +kernel
theorem dX7_groupAt_21 : decode cX7_groupAt 21 = .ok (.ireturn, 1) := by decide +kernel
theorem dX7_reaches_0 : decode cX7_reaches 0 = .ok (.iload_n 1, 1) := by decide +kernel
theorem dX7_reaches_1 : decode cX7_reaches 1 = .ok (.iload_n 0, 1) := by decide +kernel
theorem dX7_reaches_2 : decode cX7_reaches 2 = .ok (.isub, 1) := by decide +kernel
theorem dX7_reaches_3 : decode cX7_reaches 3 = .ok (.bipush (-128), 2) := by decide +kernel
theorem dX7_reaches_5 : decode cX7_reaches 5 = .ok (.if_icmp .lt 15, 3) := by decide +kernel
theorem dX7_reaches_8 : decode cX7_reaches 8 = .ok (.iload_n 1, 1) := by decide +kernel
theorem dX7_reaches_9 : decode cX7_reaches 9 = .ok (.iload_n 0, 1) := by decide +kernel
theorem dX7_reaches_10 : decode cX7_reaches 10 = .ok (.isub, 1) := by decide +kernel
theorem dX7_reaches_11 : decode cX7_reaches 11 = .ok (.bipush 127, 2) := by decide +kernel
theorem dX7_reaches_13 : decode cX7_reaches 13 = .ok (.if_icmp .gt 7, 3) := by decide +kernel
theorem dX7_reaches_16 : decode cX7_reaches 16 = .ok (.iconst 1, 1) := by decide +kernel
theorem dX7_reaches_17 : decode cX7_reaches 17 = .ok (.goto 4, 3) := by decide +kernel
theorem dX7_reaches_20 : decode cX7_reaches 20 = .ok (.iconst 0, 1) := by decide +kernel
theorem dX7_reaches_21 : decode cX7_reaches 21 = .ok (.ireturn, 1) := by decide +kernel
theorem dX7_leadsTo_0 : decode cX7_leadsTo 0 = .ok (.aload_n 0, 1) := by decide +kernel
theorem dX7_leadsTo_1 : decode cX7_leadsTo 1 = .ok (.getfield 18, 3) := by decide +kernel
theorem dX7_leadsTo_4 : decode cX7_leadsTo 4 = .ok (.iload_n 2, 1) := by decide +kernel
theorem dX7_leadsTo_5 : decode cX7_leadsTo 5 = .ok (.iaload, 1) := by decide +kernel
theorem dX7_leadsTo_6 : decode cX7_leadsTo 6 = .ok (.ifCond .le 12, 3) := by decide +kernel
theorem dX7_leadsTo_9 : decode cX7_leadsTo 9 = .ok (.aload_n 0, 1) := by decide +kernel
theorem dX7_leadsTo_10 : decode cX7_leadsTo 10 = .ok (.getfield 30, 3) := by decide +kernel
theorem dX7_leadsTo_13 : decode cX7_leadsTo 13 = .ok (.iload_n 2, 1) := by decide +kernel
theorem dX7_leadsTo_14 : decode cX7_leadsTo 14 = .ok (.iaload, 1) := by decide +kernel
theorem dX7_leadsTo_15 : decode cX7_leadsTo 15 = .ok (.goto 16, 3) := by decide +kernel
theorem dX7_leadsTo_18 : decode cX7_leadsTo 18 = .ok (.aload_n 0, 1) := by decide +kernel
theorem dX7_leadsTo_19 : decode cX7_leadsTo 19 = .ok (.aload_n 1, 1) := by decide +kernel
theorem dX7_leadsTo_20 : decode cX7_leadsTo 20 = .ok (.getfield 119, 3) := by decide +kernel
theorem dX7_leadsTo_23 : decode cX7_leadsTo 23 = .ok (.iload_n 2, 1) := by decide +kernel
theorem dX7_leadsTo_24 : decode cX7_leadsTo 24 = .ok (.iload_n 3, 1) := by decide +kernel
theorem dX7_leadsTo_25 : decode cX7_leadsTo 25 = .ok (.invokestatic 139, 3) := by decide +kernel
theorem dX7_leadsTo_28 : decode cX7_leadsTo 28 = .ok (.invokevirtual 142, 3) := by decide +kernel
theorem dX7_leadsTo_31 : decode cX7_leadsTo 31 = .ok (.ireturn, 1) := by decide +kernel
theorem dX7_growJumps_0 : decode cX7_growJumps 0 = .ok (.iconst 0, 1) := by decide +kernel
theorem dX7_growJumps_1 : decode cX7_growJumps 1 = .ok (.istore_n 2, 1) := by decide +kernel
theorem dX7_growJumps_2 : decode cX7_growJumps 2 = .ok (.iconst 0, 1) := by decide +kernel
theorem dX7_growJumps_3 : decode cX7_growJumps 3 = .ok (.istore_n 3, 1) := by decide +kernel
theorem dX7_growJumps_4 : decode cX7_growJumps 4 = .ok (.iload_n 3, 1) := by decide +kernel
theorem dX7_growJumps_5 : decode cX7_growJumps 5 = .ok (.aload_n 1, 1) := by decide +kernel
theorem dX7_growJumps_6 : decode cX7_growJumps 6 = .ok (.getfield 116, 3) := by decide +kernel
theorem dX7_growJumps_9 : decode cX7_growJumps 9 = .ok (.if_icmp .ge 127, 3) := by decide +kernel
theorem dX7_growJumps_12 : decode cX7_growJumps 12 = .ok (.aload_n 1, 1) := by decide +kernel
theorem dX7_growJumps_13 : decode cX7_growJumps 13 = .ok (.iload_n 3, 1) := by decide +kernel
theorem dX7_growJumps_14 : decode cX7_growJumps 14 = .ok (.invokevirtual 105, 3) := by decide +kernel
theorem dX7_growJumps_17 : decode cX7_growJumps 17 = .ok (.ifCond .eq 52, 3) := by decide +kernel
theorem dX7_growJumps_20 : decode cX7_growJumps 20 = .ok (.aload_n 1, 1) := by decide +kernel
theorem dX7_growJumps_21 : decode cX7_growJumps 21 = .ok (.getfield 119, 3) := by decide +kernel
theorem dX7_growJumps_24 : decode cX7_growJumps 24 = .ok (.iload_n 3, 1) := by decide +kernel
theorem dX7_growJumps_25 : decode cX7_growJumps 25 = .ok (.iaload, 1) := by decide +kernel
theorem dX7_growJumps_26 : decode cX7_growJumps 26 = .ok (.invokestatic 146, 3) := by decide +kernel
theorem dX7_growJumps_29 : decode cX7_growJumps 29 = .ok (.ifCond .eq 40, 3) := by decide +kernel
theorem dX7_growJumps_32 : decode cX7_growJumps 32 = .ok (.aload_n 0, 1) := by decide +kernel
theorem dX7_growJumps_33 : decode cX7_growJumps 33 = .ok (.getfield 36, 3) := by decide +kernel
theorem dX7_growJumps_36 : decode cX7_growJumps 36 = .ok (.iload_n 3, 1) := by decide +kernel
theorem dX7_growJumps_37 : decode cX7_growJumps 37 = .ok (.baload, 1) := by decide +kernel
theorem dX7_growJumps_38 : decode cX7_growJumps 38 = .ok (.ifCond .ne 31, 3) := by decide +kernel
theorem dX7_growJumps_41 : decode cX7_growJumps 41 = .ok (.aload_n 0, 1) := by decide +kernel
theorem dX7_growJumps_42 : decode cX7_growJumps 42 = .ok (.getfield 27, 3) := by decide +kernel
theorem dX7_growJumps_45 : decode cX7_growJumps 45 = .ok (.iload_n 3, 1) := by decide +kernel
theorem dX7_growJumps_46 : decode cX7_growJumps 46 = .ok (.iaload, 1) := by decide +kernel
theorem dX7_growJumps_47 : decode cX7_growJumps 47 = .ok (.aload_n 0, 1) := by decide +kernel
theorem dX7_growJumps_48 : decode cX7_growJumps 48 = .ok (.aload_n 1, 1) := by decide +kernel
theorem dX7_growJumps_49 : decode cX7_growJumps 49 = .ok (.iload_n 3, 1) := by decide +kernel
theorem dX7_growJumps_50 : decode cX7_growJumps 50 = .ok (.iconst 0, 1) := by decide +kernel
theorem dX7_growJumps_51 : decode cX7_growJumps 51 = .ok (.invokevirtual 149, 3) := by decide +kernel
theorem dX7_growJumps_54 : decode cX7_growJumps 54 = .ok (.invokestatic 153, 3) := by decide +kernel
theorem dX7_growJumps_57 : decode cX7_growJumps 57 = .ok (.ifCond .ne 12, 3) := by decide +kernel
theorem dX7_growJumps_60 : decode cX7_growJumps 60 = .ok (.aload_n 0, 1) := by decide +kernel
theorem dX7_growJumps_61 : decode cX7_growJumps 61 = .ok (.getfield 36, 3) := by decide +kernel
theorem dX7_growJumps_64 : decode cX7_growJumps 64 = .ok (.iload_n 3, 1) := by decide +kernel
theorem dX7_growJumps_65 : decode cX7_growJumps 65 = .ok (.iconst 1, 1) := by decide +kernel
theorem dX7_growJumps_66 : decode cX7_growJumps 66 = .ok (.bastore, 1) := by decide +kernel
theorem dX7_growJumps_67 : decode cX7_growJumps 67 = .ok (.iconst 1, 1) := by decide +kernel
theorem dX7_growJumps_68 : decode cX7_growJumps 68 = .ok (.istore_n 2, 1) := by decide +kernel
theorem dX7_growJumps_69 : decode cX7_growJumps 69 = .ok (.aload_n 0, 1) := by decide +kernel
theorem dX7_growJumps_70 : decode cX7_growJumps 70 = .ok (.getfield 18, 3) := by decide +kernel
theorem dX7_growJumps_73 : decode cX7_growJumps 73 = .ok (.iload_n 3, 1) := by decide +kernel
theorem dX7_growJumps_74 : decode cX7_growJumps 74 = .ok (.iaload, 1) := by decide +kernel
theorem dX7_growJumps_75 : decode cX7_growJumps 75 = .ok (.ifCond .le 55, 3) := by decide +kernel
theorem dX7_growJumps_78 : decode cX7_growJumps 78 = .ok (.aload_n 0, 1) := by decide +kernel
theorem dX7_growJumps_79 : decode cX7_growJumps 79 = .ok (.getfield 40, 3) := by decide +kernel
theorem dX7_growJumps_82 : decode cX7_growJumps 82 = .ok (.iload_n 3, 1) := by decide +kernel
theorem dX7_growJumps_83 : decode cX7_growJumps 83 = .ok (.baload, 1) := by decide +kernel
theorem dX7_growJumps_84 : decode cX7_growJumps 84 = .ok (.ifCond .ne 46, 3) := by decide +kernel
theorem dX7_growJumps_87 : decode cX7_growJumps 87 = .ok (.aload_n 0, 1) := by decide +kernel
theorem dX7_growJumps_88 : decode cX7_growJumps 88 = .ok (.getfield 30, 3) := by decide +kernel
theorem dX7_growJumps_91 : decode cX7_growJumps 91 = .ok (.iload_n 3, 1) := by decide +kernel
theorem dX7_growJumps_92 : decode cX7_growJumps 92 = .ok (.iaload, 1) := by decide +kernel
theorem dX7_growJumps_93 : decode cX7_growJumps 93 = .ok (.iconst 3, 1) := by decide +kernel
theorem dX7_growJumps_94 : decode cX7_growJumps 94 = .ok (.aload_n 0, 1) := by decide +kernel
theorem dX7_growJumps_95 : decode cX7_growJumps 95 = .ok (.getfield 18, 3) := by decide +kernel
theorem dX7_growJumps_98 : decode cX7_growJumps 98 = .ok (.iload_n 3, 1) := by decide +kernel
theorem dX7_growJumps_99 : decode cX7_growJumps 99 = .ok (.iaload, 1) := by decide +kernel
theorem dX7_growJumps_100 : decode cX7_growJumps 100 = .ok (.imul, 1) := by decide +kernel
theorem dX7_growJumps_101 : decode cX7_growJumps 101 = .ok (.iadd, 1) := by decide +kernel
theorem dX7_growJumps_102 : decode cX7_growJumps 102 = .ok (.aload_n 0, 1) := by decide +kernel
theorem dX7_growJumps_103 : decode cX7_growJumps 103 = .ok (.aload_n 1, 1) := by decide +kernel
theorem dX7_growJumps_104 : decode cX7_growJumps 104 = .ok (.getfield 119, 3) := by decide +kernel
theorem dX7_growJumps_107 : decode cX7_growJumps 107 = .ok (.iload_n 3, 1) := by decide +kernel
theorem dX7_growJumps_108 : decode cX7_growJumps 108 = .ok (.iconst 0, 1) := by decide +kernel
theorem dX7_growJumps_109 : decode cX7_growJumps 109 = .ok (.invokestatic 139, 3) := by decide +kernel
theorem dX7_growJumps_112 : decode cX7_growJumps 112 = .ok (.invokevirtual 142, 3) := by decide +kernel
theorem dX7_growJumps_115 : decode cX7_growJumps 115 = .ok (.invokestatic 153, 3) := by decide +kernel
theorem dX7_growJumps_118 : decode cX7_growJumps 118 = .ok (.ifCond .ne 12, 3) := by decide +kernel
theorem dX7_growJumps_121 : decode cX7_growJumps 121 = .ok (.aload_n 0, 1) := by decide +kernel
theorem dX7_growJumps_122 : decode cX7_growJumps 122 = .ok (.getfield 40, 3) := by decide +kernel
theorem dX7_growJumps_125 : decode cX7_growJumps 125 = .ok (.iload_n 3, 1) := by decide +kernel
theorem dX7_growJumps_126 : decode cX7_growJumps 126 = .ok (.iconst 1, 1) := by decide +kernel
theorem dX7_growJumps_127 : decode cX7_growJumps 127 = .ok (.bastore, 1) := by decide +kernel
theorem dX7_growJumps_128 : decode cX7_growJumps 128 = .ok (.iconst 1, 1) := by decide +kernel
theorem dX7_growJumps_129 : decode cX7_growJumps 129 = .ok (.istore_n 2, 1) := by decide +kernel
theorem dX7_growJumps_130 : decode cX7_growJumps 130 = .ok (.iinc 3 1, 3) := by decide +kernel
theorem dX7_growJumps_133 : decode cX7_growJumps 133 = .ok (.goto (-129), 3) := by decide +kernel
theorem dX7_growJumps_136 : decode cX7_growJumps 136 = .ok (.aload_n 0, 1) := by decide +kernel
theorem dX7_growJumps_137 : decode cX7_growJumps 137 = .ok (.aload_n 1, 1) := by decide +kernel
theorem dX7_growJumps_138 : decode cX7_growJumps 138 = .ok (.invokevirtual 157, 3) := by decide +kernel
theorem dX7_growJumps_141 : decode cX7_growJumps 141 = .ok (.ifCond .ne 7, 3) := by decide +kernel
theorem dX7_growJumps_144 : decode cX7_growJumps 144 = .ok (.iload_n 2, 1) := by decide +kernel
theorem dX7_growJumps_145 : decode cX7_growJumps 145 = .ok (.ifCond .eq 7, 3) := by decide +kernel
theorem dX7_growJumps_148 : decode cX7_growJumps 148 = .ok (.iconst 1, 1) := by decide +kernel
theorem dX7_growJumps_149 : decode cX7_growJumps 149 = .ok (.goto 4, 3) := by decide +kernel
theorem dX7_growJumps_152 : decode cX7_growJumps 152 = .ok (.iconst 0, 1) := by decide +kernel
theorem dX7_growJumps_153 : decode cX7_growJumps 153 = .ok (.ireturn, 1) := by decide +kernel
theorem dX7_growCaughtPads_0 : decode cX7_growCaughtPads 0 = .ok (.iconst 0, 1) := by decide +kernel
theorem dX7_growCaughtPads_1 : decode cX7_growCaughtPads 1 = .ok (.istore_n 2, 1) := by decide +kernel
theorem dX7_growCaughtPads_2 : decode cX7_growCaughtPads 2 = .ok (.iconst 0, 1) := by decide +kernel
theorem dX7_growCaughtPads_3 : decode cX7_growCaughtPads 3 = .ok (.istore_n 3, 1) := by decide +kernel
theorem dX7_growCaughtPads_4 : decode cX7_growCaughtPads 4 = .ok (.iload_n 3, 1) := by decide +kernel
theorem dX7_growCaughtPads_5 : decode cX7_growCaughtPads 5 = .ok (.aload_n 1, 1) := by decide +kernel
theorem dX7_growCaughtPads_6 : decode cX7_growCaughtPads 6 = .ok (.getfield 125, 3) := by decide +kernel
theorem dX7_growCaughtPads_9 : decode cX7_growCaughtPads 9 = .ok (.if_icmp .ge 74, 3) := by decide +kernel
theorem dX7_growCaughtPads_12 : decode cX7_growCaughtPads 12 = .ok (.aload_n 0, 1) := by decide +kernel
theorem dX7_growCaughtPads_13 : decode cX7_growCaughtPads 13 = .ok (.aload_n 1, 1) := by decide +kernel
theorem dX7_growCaughtPads_14 : decode cX7_growCaughtPads 14 = .ok (.iload_n 3, 1) := by decide +kernel
theorem dX7_growCaughtPads_15 : decode cX7_growCaughtPads 15 = .ok (.invokevirtual 128, 3) := by decide +kernel
theorem dX7_growCaughtPads_18 : decode cX7_growCaughtPads 18 = .ok (.istore 4, 2) := by decide +kernel
theorem dX7_growCaughtPads_20 : decode cX7_growCaughtPads 20 = .ok (.aload_n 0, 1) := by decide +kernel
theorem dX7_growCaughtPads_21 : decode cX7_growCaughtPads 21 = .ok (.aload_n 1, 1) := by decide +kernel
theorem dX7_growCaughtPads_22 : decode cX7_growCaughtPads 22 = .ok (.getfield 132, 3) := by decide +kernel
theorem dX7_growCaughtPads_25 : decode cX7_growCaughtPads 25 = .ok (.iload_n 3, 1) := by decide +kernel
theorem dX7_growCaughtPads_26 : decode cX7_growCaughtPads 26 = .ok (.iconst 2, 1) := by decide +kernel
theorem dX7_growCaughtPads_27 : decode cX7_growCaughtPads 27 = .ok (.invokestatic 135, 3) := by decide +kernel
theorem dX7_growCaughtPads_30 : decode cX7_growCaughtPads 30 = .ok (.invokevirtual 142, 3) := by decide +kernel
theorem dX7_growCaughtPads_33 : decode cX7_growCaughtPads 33 = .ok (.istore 5, 2) := by decide +kernel
theorem dX7_growCaughtPads_35 : decode cX7_growCaughtPads 35 = .ok (.iload 4, 2) := by decide +kernel
theorem dX7_growCaughtPads_37 : decode cX7_growCaughtPads 37 = .ok (.ifCond .le 40, 3) := by decide +kernel
theorem dX7_growCaughtPads_40 : decode cX7_growCaughtPads 40 = .ok (.aload_n 0, 1) := by decide +kernel
theorem dX7_growCaughtPads_41 : decode cX7_growCaughtPads 41 = .ok (.getfield 43, 3) := by decide +kernel
theorem dX7_growCaughtPads_44 : decode cX7_growCaughtPads 44 = .ok (.iload_n 3, 1) := by decide +kernel
theorem dX7_growCaughtPads_45 : decode cX7_growCaughtPads 45 = .ok (.baload, 1) := by decide +kernel
theorem dX7_growCaughtPads_46 : decode cX7_growCaughtPads 46 = .ok (.ifCond .ne 31, 3) := by decide +kernel
theorem dX7_growCaughtPads_49 : decode cX7_growCaughtPads 49 = .ok (.aload_n 0, 1) := by decide +kernel
theorem dX7_growCaughtPads_50 : decode cX7_growCaughtPads 50 = .ok (.getfield 33, 3) := by decide +kernel
theorem dX7_growCaughtPads_53 : decode cX7_growCaughtPads 53 = .ok (.iload_n 3, 1) := by decide +kernel
theorem dX7_growCaughtPads_54 : decode cX7_growCaughtPads 54 = .ok (.iaload, 1) := by decide +kernel
theorem dX7_growCaughtPads_55 : decode cX7_growCaughtPads 55 = .ok (.iconst 2, 1) := by decide +kernel
theorem dX7_growCaughtPads_56 : decode cX7_growCaughtPads 56 = .ok (.iload 4, 2) := by decide +kernel
theorem dX7_growCaughtPads_58 : decode cX7_growCaughtPads 58 = .ok (.imul, 1) := by decide +kernel
theorem dX7_growCaughtPads_59 : decode cX7_growCaughtPads 59 = .ok (.iadd, 1) := by decide +kernel
theorem dX7_growCaughtPads_60 : decode cX7_growCaughtPads 60 = .ok (.iload 5, 2) := by decide +kernel
theorem dX7_growCaughtPads_62 : decode cX7_growCaughtPads 62 = .ok (.invokestatic 153, 3) := by decide +kernel
theorem dX7_growCaughtPads_65 : decode cX7_growCaughtPads 65 = .ok (.ifCond .ne 12, 3) := by decide +kernel
theorem dX7_growCaughtPads_68 : decode cX7_growCaughtPads 68 = .ok (.aload_n 0, 1) := by decide +kernel
theorem dX7_growCaughtPads_69 : decode cX7_growCaughtPads 69 = .ok (.getfield 43, 3) := by decide +kernel
theorem dX7_growCaughtPads_72 : decode cX7_growCaughtPads 72 = .ok (.iload_n 3, 1) := by decide +kernel
theorem dX7_growCaughtPads_73 : decode cX7_growCaughtPads 73 = .ok (.iconst 1, 1) := by decide +kernel
theorem dX7_growCaughtPads_74 : decode cX7_growCaughtPads 74 = .ok (.bastore, 1) := by decide +kernel
theorem dX7_growCaughtPads_75 : decode cX7_growCaughtPads 75 = .ok (.iconst 1, 1) := by decide +kernel
theorem dX7_growCaughtPads_76 : decode cX7_growCaughtPads 76 = .ok (.istore_n 2, 1) := by decide +kernel
theorem dX7_growCaughtPads_77 : decode cX7_growCaughtPads 77 = .ok (.iinc 3 1, 3) := by decide +kernel
theorem dX7_growCaughtPads_80 : decode cX7_growCaughtPads 80 = .ok (.goto (-76), 3) := by decide +kernel
theorem dX7_growCaughtPads_83 : decode cX7_growCaughtPads 83 = .ok (.iload_n 2, 1) := by decide +kernel
theorem dX7_growCaughtPads_84 : decode cX7_growCaughtPads 84 = .ok (.ireturn, 1) := by decide +kernel
theorem dX7_writeAll_0 : decode cX7_writeAll 0 = .ok (.aload_n 1, 1) := by decide +kernel
theorem dX7_writeAll_1 : decode cX7_writeAll 1 = .ok (.getfield 160, 3) := by decide +kernel
theorem dX7_writeAll_4 : decode cX7_writeAll 4 = .ok (.astore_n 3, 1) := by decide +kernel
theorem dX7_writeAll_5 : decode cX7_writeAll 5 = .ok (.aload_n 3, 1) := by decide +kernel
theorem dX7_writeAll_6 : decode cX7_writeAll 6 = .ok (.iconst 0, 1) := by decide +kernel
theorem dX7_writeAll_7 : decode cX7_writeAll 7 = .ok (.putfield 164, 3) := by decide +kernel
theorem dX7_writeAll_10 : decode cX7_writeAll 10 = .ok (.aload_n 0, 1) := by decide +kernel
theorem dX7_writeAll_11 : decode cX7_writeAll 11 = .ok (.iconst 0, 1) := by decide +kernel
theorem dX7_writeAll_12 : decode cX7_writeAll 12 = .ok (.putfield 62, 3) := by decide +kernel
theorem dX7_writeAll_15 : decode cX7_writeAll 15 = .ok (.aload_n 0, 1) := by decide +kernel
theorem dX7_writeAll_16 : decode cX7_writeAll 16 = .ok (.aload_n 1, 1) := by decide +kernel
theorem dX7_writeAll_17 : decode cX7_writeAll 17 = .ok (.aload_n 2, 1) := by decide +kernel
theorem dX7_writeAll_18 : decode cX7_writeAll 18 = .ok (.iconst 2, 1) := by decide +kernel
theorem dX7_writeAll_19 : decode cX7_writeAll 19 = .ok (.iconst 0, 1) := by decide +kernel
theorem dX7_writeAll_20 : decode cX7_writeAll 20 = .ok (.iconst (-1), 1) := by decide +kernel
theorem dX7_writeAll_21 : decode cX7_writeAll 21 = .ok (.invokevirtual 169, 3) := by decide +kernel
theorem dX7_writeAll_24 : decode cX7_writeAll 24 = .ok (.iconst 0, 1) := by decide +kernel
theorem dX7_writeAll_25 : decode cX7_writeAll 25 = .ok (.istore 4, 2) := by decide +kernel
theorem dX7_writeAll_27 : decode cX7_writeAll 27 = .ok (.iload 4, 2) := by decide +kernel
theorem dX7_writeAll_29 : decode cX7_writeAll 29 = .ok (.aload_n 1, 1) := by decide +kernel
theorem dX7_writeAll_30 : decode cX7_writeAll 30 = .ok (.getfield 116, 3) := by decide +kernel
theorem dX7_writeAll_33 : decode cX7_writeAll 33 = .ok (.if_icmp .ge 118, 3) := by decide +kernel
theorem dX7_writeAll_36 : decode cX7_writeAll 36 = .ok (.aload_n 3, 1) := by decide +kernel
theorem dX7_writeAll_37 : decode cX7_writeAll 37 = .ok (.getfield 173, 3) := by decide +kernel
theorem dX7_writeAll_40 : decode cX7_writeAll 40 = .ok (.iload 4, 2) := by decide +kernel
theorem dX7_writeAll_42 : decode cX7_writeAll 42 = .ok (.aload_n 1, 1) := by decide +kernel
theorem dX7_writeAll_43 : decode cX7_writeAll 43 = .ok (.iload 4, 2) := by decide +kernel
theorem dX7_writeAll_45 : decode cX7_writeAll 45 = .ok (.invokevirtual 105, 3) := by decide +kernel
theorem dX7_writeAll_48 : decode cX7_writeAll 48 = .ok (.ifCond .eq 25, 3) := by decide +kernel
theorem dX7_writeAll_51 : decode cX7_writeAll 51 = .ok (.aload_n 0, 1) := by decide +kernel
theorem dX7_writeAll_52 : decode cX7_writeAll 52 = .ok (.getfield 9, 3) := by decide +kernel
theorem dX7_writeAll_55 : decode cX7_writeAll 55 = .ok (.iload 4, 2) := by decide +kernel
theorem dX7_writeAll_57 : decode cX7_writeAll 57 = .ok (.iaload, 1) := by decide +kernel
theorem dX7_writeAll_58 : decode cX7_writeAll 58 = .ok (.aload_n 0, 1) := by decide +kernel
theorem dX7_writeAll_59 : decode cX7_writeAll 59 = .ok (.getfield 15, 3) := by decide +kernel
theorem dX7_writeAll_62 : decode cX7_writeAll 62 = .ok (.iload 4, 2) := by decide +kernel
theorem dX7_writeAll_64 : decode cX7_writeAll 64 = .ok (.iaload, 1) := by decide +kernel
theorem dX7_writeAll_65 : decode cX7_writeAll 65 = .ok (.iadd, 1) := by decide +kernel
theorem dX7_writeAll_66 : decode cX7_writeAll 66 = .ok (.ifCond .le 7, 3) := by decide +kernel
theorem dX7_writeAll_69 : decode cX7_writeAll 69 = .ok (.iconst 1, 1) := by decide +kernel
theorem dX7_writeAll_70 : decode cX7_writeAll 70 = .ok (.goto 4, 3) := by decide +kernel
theorem dX7_writeAll_73 : decode cX7_writeAll 73 = .ok (.iconst 0, 1) := by decide +kernel
theorem dX7_writeAll_74 : decode cX7_writeAll 74 = .ok (.bastore, 1) := by decide +kernel
theorem dX7_writeAll_75 : decode cX7_writeAll 75 = .ok (.aload_n 1, 1) := by decide +kernel
theorem dX7_writeAll_76 : decode cX7_writeAll 76 = .ok (.iload 4, 2) := by decide +kernel
theorem dX7_writeAll_78 : decode cX7_writeAll 78 = .ok (.invokevirtual 105, 3) := by decide +kernel
theorem dX7_writeAll_81 : decode cX7_writeAll 81 = .ok (.ifCond .eq 64, 3) := by decide +kernel
theorem dX7_writeAll_84 : decode cX7_writeAll 84 = .ok (.aload_n 0, 1) := by decide +kernel
theorem dX7_writeAll_85 : decode cX7_writeAll 85 = .ok (.aload_n 1, 1) := by decide +kernel
theorem dX7_writeAll_86 : decode cX7_writeAll 86 = .ok (.aload_n 2, 1) := by decide +kernel
theorem dX7_writeAll_87 : decode cX7_writeAll 87 = .ok (.iload 4, 2) := by decide +kernel
theorem dX7_writeAll_89 : decode cX7_writeAll 89 = .ok (.invokevirtual 176, 3) := by decide +kernel
theorem dX7_writeAll_92 : decode cX7_writeAll 92 = .ok (.aload_n 0, 1) := by decide +kernel
theorem dX7_writeAll_93 : decode cX7_writeAll 93 = .ok (.aload_n 1, 1) := by decide +kernel
theorem dX7_writeAll_94 : decode cX7_writeAll 94 = .ok (.iload 4, 2) := by decide +kernel
theorem dX7_writeAll_96 : decode cX7_writeAll 96 = .ok (.invokevirtual 180, 3) := by decide +kernel
theorem dX7_writeAll_99 : decode cX7_writeAll 99 = .ok (.aload_n 0, 1) := by decide +kernel
theorem dX7_writeAll_100 : decode cX7_writeAll 100 = .ok (.aload_n 1, 1) := by decide +kernel
theorem dX7_writeAll_101 : decode cX7_writeAll 101 = .ok (.aload_n 2, 1) := by decide +kernel
theorem dX7_writeAll_102 : decode cX7_writeAll 102 = .ok (.iload 4, 2) := by decide +kernel
theorem dX7_writeAll_104 : decode cX7_writeAll 104 = .ok (.invokevirtual 184, 3) := by decide +kernel
theorem dX7_writeAll_107 : decode cX7_writeAll 107 = .ok (.aload_n 3, 1) := by decide +kernel
theorem dX7_writeAll_108 : decode cX7_writeAll 108 = .ok (.getfield 187, 3) := by decide +kernel
theorem dX7_writeAll_111 : decode cX7_writeAll 111 = .ok (.iload 4, 2) := by decide +kernel
theorem dX7_writeAll_113 : decode cX7_writeAll 113 = .ok (.aload_n 0, 1) := by decide +kernel
theorem dX7_writeAll_114 : decode cX7_writeAll 114 = .ok (.getfield 27, 3) := by decide +kernel
theorem dX7_writeAll_117 : decode cX7_writeAll 117 = .ok (.iload 4, 2) := by decide +kernel
theorem dX7_writeAll_119 : decode cX7_writeAll 119 = .ok (.iaload, 1) := by decide +kernel
theorem dX7_writeAll_120 : decode cX7_writeAll 120 = .ok (.iastore, 1) := by decide +kernel
theorem dX7_writeAll_121 : decode cX7_writeAll 121 = .ok (.aload_n 3, 1) := by decide +kernel
theorem dX7_writeAll_122 : decode cX7_writeAll 122 = .ok (.dup, 1) := by decide +kernel
theorem dX7_writeAll_123 : decode cX7_writeAll 123 = .ok (.getfield 164, 3) := by decide +kernel
theorem dX7_writeAll_126 : decode cX7_writeAll 126 = .ok (.aload_n 0, 1) := by decide +kernel
theorem dX7_writeAll_127 : decode cX7_writeAll 127 = .ok (.getfield 36, 3) := by decide +kernel
theorem dX7_writeAll_130 : decode cX7_writeAll 130 = .ok (.iload 4, 2) := by decide +kernel
theorem dX7_writeAll_132 : decode cX7_writeAll 132 = .ok (.baload, 1) := by decide +kernel
theorem dX7_writeAll_133 : decode cX7_writeAll 133 = .ok (.ifCond .eq 7, 3) := by decide +kernel
theorem dX7_writeAll_136 : decode cX7_writeAll 136 = .ok (.iconst 1, 1) := by decide +kernel
theorem dX7_writeAll_137 : decode cX7_writeAll 137 = .ok (.goto 4, 3) := by decide +kernel
theorem dX7_writeAll_140 : decode cX7_writeAll 140 = .ok (.iconst 0, 1) := by decide +kernel
theorem dX7_writeAll_141 : decode cX7_writeAll 141 = .ok (.iadd, 1) := by decide +kernel
theorem dX7_writeAll_142 : decode cX7_writeAll 142 = .ok (.putfield 164, 3) := by decide +kernel
theorem dX7_writeAll_145 : decode cX7_writeAll 145 = .ok (.iinc 4 1, 3) := by decide +kernel
theorem dX7_writeAll_148 : decode cX7_writeAll 148 = .ok (.goto (-121), 3) := by decide +kernel
theorem dX7_writeAll_151 : decode cX7_writeAll 151 = .ok (.aload_n 0, 1) := by decide +kernel
theorem dX7_writeAll_152 : decode cX7_writeAll 152 = .ok (.aload_n 1, 1) := by decide +kernel
theorem dX7_writeAll_153 : decode cX7_writeAll 153 = .ok (.aload_n 2, 1) := by decide +kernel
theorem dX7_writeAll_154 : decode cX7_writeAll 154 = .ok (.invokevirtual 188, 3) := by decide +kernel
theorem dX7_writeAll_157 : decode cX7_writeAll 157 = .ok (.aload_n 0, 1) := by decide +kernel
theorem dX7_writeAll_158 : decode cX7_writeAll 158 = .ok (.aload_n 1, 1) := by decide +kernel
theorem dX7_writeAll_159 : decode cX7_writeAll 159 = .ok (.aload_n 2, 1) := by decide +kernel
theorem dX7_writeAll_160 : decode cX7_writeAll 160 = .ok (.invokevirtual 191, 3) := by decide +kernel
theorem dX7_writeAll_163 : decode cX7_writeAll 163 = .ok (.aload_n 0, 1) := by decide +kernel
theorem dX7_writeAll_164 : decode cX7_writeAll 164 = .ok (.aload_n 1, 1) := by decide +kernel
theorem dX7_writeAll_165 : decode cX7_writeAll 165 = .ok (.aload_n 2, 1) := by decide +kernel
theorem dX7_writeAll_166 : decode cX7_writeAll 166 = .ok (.invokevirtual 194, 3) := by decide +kernel
theorem dX7_writeAll_169 : decode cX7_writeAll 169 = .ok (.aload_n 0, 1) := by decide +kernel
theorem dX7_writeAll_170 : decode cX7_writeAll 170 = .ok (.aload_n 1, 1) := by decide +kernel
theorem dX7_writeAll_171 : decode cX7_writeAll 171 = .ok (.invokevirtual 197, 3) := by decide +kernel
theorem dX7_writeAll_174 : decode cX7_writeAll 174 = .ok (.aload_n 3, 1) := by decide +kernel
theorem dX7_writeAll_175 : decode cX7_writeAll 175 = .ok (.aload_n 0, 1) := by decide +kernel
theorem dX7_writeAll_176 : decode cX7_writeAll 176 = .ok (.getfield 59, 3) := by decide +kernel
theorem dX7_writeAll_179 : decode cX7_writeAll 179 = .ok (.putfield 200, 3) := by decide +kernel
theorem dX7_writeAll_182 : decode cX7_writeAll 182 = .ok (.aload_n 3, 1) := by decide +kernel
theorem dX7_writeAll_183 : decode cX7_writeAll 183 = .ok (.aload_n 0, 1) := by decide +kernel
theorem dX7_writeAll_184 : decode cX7_writeAll 184 = .ok (.getfield 53, 3) := by decide +kernel
theorem dX7_writeAll_187 : decode cX7_writeAll 187 = .ok (.putfield 201, 3) := by decide +kernel
theorem dX7_writeAll_190 : decode cX7_writeAll 190 = .ok (.aload_n 3, 1) := by decide +kernel
theorem dX7_writeAll_191 : decode cX7_writeAll 191 = .ok (.aload_n 2, 1) := by decide +kernel
theorem dX7_writeAll_192 : decode cX7_writeAll 192 = .ok (.getfield 89, 3) := by decide +kernel
theorem dX7_writeAll_195 : decode cX7_writeAll 195 = .ok (.putfield 204, 3) := by decide +kernel
theorem dX7_writeAll_198 : decode cX7_writeAll 198 = .ok (.aload_n 3, 1) := by decide +kernel
theorem dX7_writeAll_199 : decode cX7_writeAll 199 = .ok (.iconst 1, 1) := by decide +kernel
theorem dX7_writeAll_200 : decode cX7_writeAll 200 = .ok (.putfield 207, 3) := by decide +kernel
theorem dX7_writeAll_203 : decode cX7_writeAll 203 = .ok (.return_, 1) := by decide +kernel
theorem dX7_writeAhead_0 : decode cX7_writeAhead 0 = .ok (.aload_n 0, 1) := by decide +kernel
theorem dX7_writeAhead_1 : decode cX7_writeAhead 1 = .ok (.getfield 9, 3) := by decide +kernel
theorem dX7_writeAhead_4 : decode cX7_writeAhead 4 = .ok (.iload_n 3, 1) := by decide +kernel
theorem dX7_writeAhead_5 : decode cX7_writeAhead 5 = .ok (.iaload, 1) := by decide +kernel
theorem dX7_writeAhead_6 : decode cX7_writeAhead 6 = .ok (.ifCond .ne 4, 3) := by decide +kernel
theorem dX7_writeAhead_9 : decode cX7_writeAhead 9 = .ok (.return_, 1) := by decide +kernel
theorem dX7_writeAhead_10 : decode cX7_writeAhead 10 = .ok (.aload_n 0, 1) := by decide +kernel
theorem dX7_writeAhead_11 : decode cX7_writeAhead 11 = .ok (.aload_n 1, 1) := by decide +kernel
theorem dX7_writeAhead_12 : decode cX7_writeAhead 12 = .ok (.aload_n 2, 1) := by decide +kernel
theorem dX7_writeAhead_13 : decode cX7_writeAhead 13 = .ok (.iconst 0, 1) := by decide +kernel
theorem dX7_writeAhead_14 : decode cX7_writeAhead 14 = .ok (.iload_n 3, 1) := by decide +kernel
theorem dX7_writeAhead_15 : decode cX7_writeAhead 15 = .ok (.iload_n 3, 1) := by decide +kernel
theorem dX7_writeAhead_16 : decode cX7_writeAhead 16 = .ok (.invokevirtual 169, 3) := by decide +kernel
theorem dX7_writeAhead_19 : decode cX7_writeAhead 19 = .ok (.aload_n 1, 1) := by decide +kernel
theorem dX7_writeAhead_20 : decode cX7_writeAhead 20 = .ok (.getfield 119, 3) := by decide +kernel
theorem dX7_writeAhead_23 : decode cX7_writeAhead 23 = .ok (.iload_n 3, 1) := by decide +kernel
theorem dX7_writeAhead_24 : decode cX7_writeAhead 24 = .ok (.iaload, 1) := by decide +kernel
theorem dX7_writeAhead_25 : decode cX7_writeAhead 25 = .ok (.bipush 42, 2) := by decide +kernel
theorem dX7_writeAhead_27 : decode cX7_writeAhead 27 = .ok (.if_icmp .ne 12, 3) := by decide +kernel
theorem dX7_writeAhead_30 : decode cX7_writeAhead 30 = .ok (.aload_n 0, 1) := by decide +kernel
theorem dX7_writeAhead_31 : decode cX7_writeAhead 31 = .ok (.aload_n 1, 1) := by decide +kernel
theorem dX7_writeAhead_32 : decode cX7_writeAhead 32 = .ok (.aload_n 2, 1) := by decide +kernel
theorem dX7_writeAhead_33 : decode cX7_writeAhead 33 = .ok (.iconst 3, 1) := by decide +kernel
theorem dX7_writeAhead_34 : decode cX7_writeAhead 34 = .ok (.iconst 0, 1) := by decide +kernel
theorem dX7_writeAhead_35 : decode cX7_writeAhead 35 = .ok (.iload_n 3, 1) := by decide +kernel
theorem dX7_writeAhead_36 : decode cX7_writeAhead 36 = .ok (.invokevirtual 169, 3) := by decide +kernel
theorem dX7_writeAhead_39 : decode cX7_writeAhead 39 = .ok (.aload_n 0, 1) := by decide +kernel
theorem dX7_writeAhead_40 : decode cX7_writeAhead 40 = .ok (.aload_n 1, 1) := by decide +kernel
theorem dX7_writeAhead_41 : decode cX7_writeAhead 41 = .ok (.aload_n 2, 1) := by decide +kernel
theorem dX7_writeAhead_42 : decode cX7_writeAhead 42 = .ok (.iconst 4, 1) := by decide +kernel
theorem dX7_writeAhead_43 : decode cX7_writeAhead 43 = .ok (.iload_n 3, 1) := by decide +kernel
theorem dX7_writeAhead_44 : decode cX7_writeAhead 44 = .ok (.iload_n 3, 1) := by decide +kernel
theorem dX7_writeAhead_45 : decode cX7_writeAhead 45 = .ok (.invokevirtual 169, 3) := by decide +kernel
theorem dX7_writeAhead_48 : decode cX7_writeAhead 48 = .ok (.return_, 1) := by decide +kernel
theorem dX7_writeProbes_0 : decode cX7_writeProbes 0 = .ok (.iconst 0, 1) := by decide +kernel
theorem dX7_writeProbes_1 : decode cX7_writeProbes 1 = .ok (.istore 6, 2) := by decide +kernel
theorem dX7_writeProbes_3 : decode cX7_writeProbes 3 = .ok (.iload 6, 2) := by decide +kernel
theorem dX7_writeProbes_5 : decode cX7_writeProbes 5 = .ok (.aload_n 2, 1) := by decide +kernel
theorem dX7_writeProbes_6 : decode cX7_writeProbes 6 = .ok (.getfield 89, 3) := by decide +kernel
theorem dX7_writeProbes_9 : decode cX7_writeProbes 9 = .ok (.if_icmp .ge 88, 3) := by decide +kernel
theorem dX7_writeProbes_12 : decode cX7_writeProbes 12 = .ok (.aload_n 2, 1) := by decide +kernel
theorem dX7_writeProbes_13 : decode cX7_writeProbes 13 = .ok (.iload 6, 2) := by decide +kernel
theorem dX7_writeProbes_15 : decode cX7_writeProbes 15 = .ok (.invokevirtual 211, 3) := by decide +kernel
theorem dX7_writeProbes_18 : decode cX7_writeProbes 18 = .ok (.istore 7, 2) := by decide +kernel
theorem dX7_writeProbes_20 : decode cX7_writeProbes 20 = .ok (.iload 7, 2) := by decide +kernel
theorem dX7_writeProbes_22 : decode cX7_writeProbes 22 = .ok (.iload_n 3, 1) := by decide +kernel
theorem dX7_writeProbes_23 : decode cX7_writeProbes 23 = .ok (.if_icmp .eq 14, 3) := by decide +kernel
theorem dX7_writeProbes_26 : decode cX7_writeProbes 26 = .ok (.iload_n 3, 1) := by decide +kernel
theorem dX7_writeProbes_27 : decode cX7_writeProbes 27 = .ok (.ifCond .ne 14, 3) := by decide +kernel
theorem dX7_writeProbes_30 : decode cX7_writeProbes 30 = .ok (.iload 7, 2) := by decide +kernel
theorem dX7_writeProbes_32 : decode cX7_writeProbes 32 = .ok (.bipush 6, 2) := by decide +kernel
theorem dX7_writeProbes_34 : decode cX7_writeProbes 34 = .ok (.if_icmp .ne 7, 3) := by decide +kernel
theorem dX7_writeProbes_37 : decode cX7_writeProbes 37 = .ok (.iconst 1, 1) := by decide +kernel
theorem dX7_writeProbes_38 : decode cX7_writeProbes 38 = .ok (.goto 4, 3) := by decide +kernel
theorem dX7_writeProbes_41 : decode cX7_writeProbes 41 = .ok (.iconst 0, 1) := by decide +kernel
theorem dX7_writeProbes_42 : decode cX7_writeProbes 42 = .ok (.istore 8, 2) := by decide +kernel
theorem dX7_writeProbes_44 : decode cX7_writeProbes 44 = .ok (.iload 8, 2) := by decide +kernel
theorem dX7_writeProbes_46 : decode cX7_writeProbes 46 = .ok (.ifCond .eq 45, 3) := by decide +kernel
theorem dX7_writeProbes_49 : decode cX7_writeProbes 49 = .ok (.aload_n 2, 1) := by decide +kernel
theorem dX7_writeProbes_50 : decode cX7_writeProbes 50 = .ok (.iload 6, 2) := by decide +kernel
theorem dX7_writeProbes_52 : decode cX7_writeProbes 52 = .ok (.aload_n 1, 1) := by decide +kernel
theorem dX7_writeProbes_53 : decode cX7_writeProbes 53 = .ok (.getfield 100, 3) := by decide +kernel
theorem dX7_writeProbes_56 : decode cX7_writeProbes 56 = .ok (.iload 4, 2) := by decide +kernel
theorem dX7_writeProbes_58 : decode cX7_writeProbes 58 = .ok (.invokevirtual 214, 3) := by decide +kernel
theorem dX7_writeProbes_61 : decode cX7_writeProbes 61 = .ok (.ifCond .eq 30, 3) := by decide +kernel
theorem dX7_writeProbes_64 : decode cX7_writeProbes 64 = .ok (.aload_n 0, 1) := by decide +kernel
theorem dX7_writeProbes_65 : decode cX7_writeProbes 65 = .ok (.aload_n 1, 1) := by decide +kernel
theorem dX7_writeProbes_66 : decode cX7_writeProbes 66 = .ok (.getfield 160, 3) := by decide +kernel
theorem dX7_writeProbes_69 : decode cX7_writeProbes 69 = .ok (.iload 7, 2) := by decide +kernel
theorem dX7_writeProbes_71 : decode cX7_writeProbes 71 = .ok (.invokestatic 218, 3) := by decide +kernel
