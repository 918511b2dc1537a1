theorem dX10_isThrown_33 : decode cX10_isThrown 33 = .ok (.invokevirtual 504, 3) := by decide +kernel
theorem dX10_isThrown_36 : decode cX10_isThrown 36 = .ok (.istore 4, 2) := by decide +kernel
theorem dX10_isThrown_38 : decode cX10_isThrown 38 = .ok (.iload 4, 2) := by decide +kernel
theorem dX10_isThrown_40 : decode cX10_isThrown 40 = .ok (.iconst (-1), 1) := by decide +kernel
theorem dX10_isThrown_41 : decode cX10_isThrown 41 = .ok (.if_icmp .eq 11, 3) := by decide +kernel
theorem dX10_isThrown_44 : decode cX10_isThrown 44 = .ok (.aload_n 0, 1) := by decide +kernel
theorem dX10_isThrown_45 : decode cX10_isThrown 45 = .ok (.iload_n 2, 1) := by decide +kernel
theorem dX10_isThrown_46 : decode cX10_isThrown 46 = .ok (.iload 4, 2) := by decide +kernel
theorem dX10_isThrown_48 : decode cX10_isThrown 48 = .ok (.invokevirtual 507, 3) := by decide +kernel
theorem dX10_isThrown_51 : decode cX10_isThrown 51 = .ok (.return_, 1) := by decide +kernel
theorem dX10_isThrown_52 : decode cX10_isThrown 52 = .ok (.iconst 0, 1) := by decide +kernel
theorem dX10_isThrown_53 : decode cX10_isThrown 53 = .ok (.istore 5, 2) := by decide +kernel
theorem dX10_isThrown_55 : decode cX10_isThrown 55 = .ok (.iload 5, 2) := by decide +kernel
theorem dX10_isThrown_57 : decode cX10_isThrown 57 = .ok (.aload_n 0, 1) := by decide +kernel
theorem dX10_isThrown_58 : decode cX10_isThrown 58 = .ok (.iload_n 2, 1) := by decide +kernel
theorem dX10_isThrown_59 : decode cX10_isThrown 59 = .ok (.invokevirtual 436, 3) := by decide +kernel
theorem dX10_isThrown_62 : decode cX10_isThrown 62 = .ok (.if_icmp .ge 36, 3) := by decide +kernel
theorem dX10_isThrown_65 : decode cX10_isThrown 65 = .ok (.aload_n 0, 1) := by decide +kernel
theorem dX10_isThrown_66 : decode cX10_isThrown 66 = .ok (.iload 5, 2) := by decide +kernel
theorem dX10_isThrown_68 : decode cX10_isThrown 68 = .ok (.iconst 3, 1) := by decide +kernel
theorem dX10_isThrown_69 : decode cX10_isThrown 69 = .ok (.iload_n 2, 1) := by decide +kernel
theorem dX10_isThrown_70 : decode cX10_isThrown 70 = .ok (.iconst 0, 1) := by decide +kernel
theorem dX10_isThrown_71 : decode cX10_isThrown 71 = .ok (.aload_n 0, 1) := by decide +kernel
theorem dX10_isThrown_72 : decode cX10_isThrown 72 = .ok (.getfield 335, 3) := by decide +kernel
theorem dX10_isThrown_75 : decode cX10_isThrown 75 = .ok (.invokevirtual 338, 3) := by decide +kernel
theorem dX10_isThrown_78 : decode cX10_isThrown 78 = .ok (.ifCond .eq 14, 3) := by decide +kernel
theorem dX10_isThrown_81 : decode cX10_isThrown 81 = .ok (.aload_n 0, 1) := by decide +kernel
theorem dX10_isThrown_82 : decode cX10_isThrown 82 = .ok (.iload 5, 2) := by decide +kernel
theorem dX10_isThrown_84 : decode cX10_isThrown 84 = .ok (.aload_n 0, 1) := by decide +kernel
theorem dX10_isThrown_85 : decode cX10_isThrown 85 = .ok (.getfield 424, 3) := by decide +kernel
theorem dX10_isThrown_88 : decode cX10_isThrown 88 = .ok (.ineg, 1) := by decide +kernel
theorem dX10_isThrown_89 : decode cX10_isThrown 89 = .ok (.invokevirtual 442, 3) := by decide +kernel
theorem dX10_isThrown_92 : decode cX10_isThrown 92 = .ok (.iinc 5 1, 3) := by decide +kernel
theorem dX10_isThrown_95 : decode cX10_isThrown 95 = .ok (.goto (-40), 3) := by decide +kernel
theorem dX10_isThrown_98 : decode cX10_isThrown 98 = .ok (.aload_n 0, 1) := by decide +kernel
theorem dX10_isThrown_99 : decode cX10_isThrown 99 = .ok (.dup, 1) := by decide +kernel
theorem dX10_isThrown_100 : decode cX10_isThrown 100 = .ok (.getfield 415, 3) := by decide +kernel
theorem dX10_isThrown_103 : decode cX10_isThrown 103 = .ok (.iconst 1, 1) := by decide +kernel
theorem dX10_isThrown_104 : decode cX10_isThrown 104 = .ok (.isub, 1) := by decide +kernel
theorem dX10_isThrown_105 : decode cX10_isThrown 105 = .ok (.putfield 415, 3) := by decide +kernel
theorem dX10_isThrown_108 : decode cX10_isThrown 108 = .ok (.aload_n 0, 1) := by decide +kernel
theorem dX10_isThrown_109 : decode cX10_isThrown 109 = .ok (.getfield 415, 3) := by decide +kernel
theorem dX10_isThrown_112 : decode cX10_isThrown 112 = .ok (.ifCond .le 7, 3) := by decide +kernel
theorem dX10_isThrown_115 : decode cX10_isThrown 115 = .ok (.iconst 1, 1) := by decide +kernel
theorem dX10_isThrown_116 : decode cX10_isThrown 116 = .ok (.goto 4, 3) := by decide +kernel
theorem dX10_isThrown_119 : decode cX10_isThrown 119 = .ok (.iconst 0, 1) := by decide +kernel
theorem dX10_isThrown_120 : decode cX10_isThrown 120 = .ok (.istore_n 1, 1) := by decide +kernel
theorem dX10_isThrown_121 : decode cX10_isThrown 121 = .ok (.goto (-119), 3) := by decide +kernel
theorem dX10_isThrown_124 : decode cX10_isThrown 124 = .ok (.aload_n 0, 1) := by decide +kernel
theorem dX10_isThrown_125 : decode cX10_isThrown 125 = .ok (.iconst 1, 1) := by decide +kernel
theorem dX10_isThrown_126 : decode cX10_isThrown 126 = .ok (.putfield 403, 3) := by decide +kernel
theorem dX10_isThrown_129 : decode cX10_isThrown 129 = .ok (.return_, 1) := by decide +kernel
theorem dX10_leaves_0 : decode cX10_leaves 0 = .ok (.aload_n 0, 1) := by decide +kernel
theorem dX10_leaves_1 : decode cX10_leaves 1 = .ok (.dup, 1) := by decide +kernel
theorem dX10_leaves_2 : decode cX10_leaves 2 = .ok (.getfield 415, 3) := by decide +kernel
theorem dX10_leaves_5 : decode cX10_leaves 5 = .ok (.iconst 1, 1) := by decide +kernel
theorem dX10_leaves_6 : decode cX10_leaves 6 = .ok (.isub, 1) := by decide +kernel
theorem dX10_leaves_7 : decode cX10_leaves 7 = .ok (.putfield 415, 3) := by decide +kernel
theorem dX10_leaves_10 : decode cX10_leaves 10 = .ok (.aload_n 0, 1) := by decide +kernel
theorem dX10_leaves_11 : decode cX10_leaves 11 = .ok (.getfield 415, 3) := by decide +kernel
theorem dX10_leaves_14 : decode cX10_leaves 14 = .ok (.ifCond .ne 11, 3) := by decide +kernel
theorem dX10_leaves_17 : decode cX10_leaves 17 = .ok (.aload_n 0, 1) := by decide +kernel
theorem dX10_leaves_18 : decode cX10_leaves 18 = .ok (.iconst 1, 1) := by decide +kernel
theorem dX10_leaves_19 : decode cX10_leaves 19 = .ok (.putfield 403, 3) := by decide +kernel
theorem dX10_leaves_22 : decode cX10_leaves 22 = .ok (.goto 7, 3) := by decide +kernel
theorem dX10_leaves_25 : decode cX10_leaves 25 = .ok (.aload_n 0, 1) := by decide +kernel
theorem dX10_leaves_26 : decode cX10_leaves 26 = .ok (.invokevirtual 464, 3) := by decide +kernel
theorem dX10_leaves_29 : decode cX10_leaves 29 = .ok (.return_, 1) := by decide +kernel
theorem dX10_catches_0 : decode cX10_catches 0 = .ok (.aload_n 0, 1) := by decide +kernel
theorem dX10_catches_1 : decode cX10_catches 1 = .ok (.iload_n 1, 1) := by decide +kernel
theorem dX10_catches_2 : decode cX10_catches 2 = .ok (.invokevirtual 445, 3) := by decide +kernel
theorem dX10_catches_5 : decode cX10_catches 5 = .ok (.istore_n 3, 1) := by decide +kernel
theorem dX10_catches_6 : decode cX10_catches 6 = .ok (.iload_n 3, 1) := by decide +kernel
theorem dX10_catches_7 : decode cX10_catches 7 = .ok (.ifCond .eq 12, 3) := by decide +kernel
theorem dX10_catches_10 : decode cX10_catches 10 = .ok (.aload_n 0, 1) := by decide +kernel
theorem dX10_catches_11 : decode cX10_catches 11 = .ok (.getfield 84, 3) := by decide +kernel
theorem dX10_catches_14 : decode cX10_catches 14 = .ok (.iload_n 1, 1) := by decide +kernel
theorem dX10_catches_15 : decode cX10_catches 15 = .ok (.iaload, 1) := by decide +kernel
theorem dX10_catches_16 : decode cX10_catches 16 = .ok (.goto 9, 3) := by decide +kernel
theorem dX10_catches_19 : decode cX10_catches 19 = .ok (.aload_n 0, 1) := by decide +kernel
theorem dX10_catches_20 : decode cX10_catches 20 = .ok (.getfield 29, 3) := by decide +kernel
theorem dX10_catches_23 : decode cX10_catches 23 = .ok (.iload_n 1, 1) := by decide +kernel
theorem dX10_catches_24 : decode cX10_catches 24 = .ok (.iaload, 1) := by decide +kernel
theorem dX10_catches_25 : decode cX10_catches 25 = .ok (.istore 4, 2) := by decide +kernel
theorem dX10_catches_27 : decode cX10_catches 27 = .ok (.iconst 0, 1) := by decide +kernel
theorem dX10_catches_28 : decode cX10_catches 28 = .ok (.istore 5, 2) := by decide +kernel
theorem dX10_catches_30 : decode cX10_catches 30 = .ok (.iload 5, 2) := by decide +kernel
theorem dX10_catches_32 : decode cX10_catches 32 = .ok (.iload 4, 2) := by decide +kernel
theorem dX10_catches_34 : decode cX10_catches 34 = .ok (.if_icmp .ge 130, 3) := by decide +kernel
theorem dX10_catches_37 : decode cX10_catches 37 = .ok (.iload_n 3, 1) := by decide +kernel
theorem dX10_catches_38 : decode cX10_catches 38 = .ok (.ifCond .eq 13, 3) := by decide +kernel
theorem dX10_catches_41 : decode cX10_catches 41 = .ok (.bipush 9, 2) := by decide +kernel
theorem dX10_catches_43 : decode cX10_catches 43 = .ok (.iload_n 1, 1) := by decide +kernel
theorem dX10_catches_44 : decode cX10_catches 44 = .ok (.imul, 1) := by decide +kernel
theorem dX10_catches_45 : decode cX10_catches 45 = .ok (.iload 5, 2) := by decide +kernel
theorem dX10_catches_47 : decode cX10_catches 47 = .ok (.iadd, 1) := by decide +kernel
theorem dX10_catches_48 : decode cX10_catches 48 = .ok (.goto 10, 3) := by decide +kernel
theorem dX10_catches_51 : decode cX10_catches 51 = .ok (.bipush 8, 2) := by decide +kernel
theorem dX10_catches_53 : decode cX10_catches 53 = .ok (.iload_n 1, 1) := by decide +kernel
theorem dX10_catches_54 : decode cX10_catches 54 = .ok (.imul, 1) := by decide +kernel
theorem dX10_catches_55 : decode cX10_catches 55 = .ok (.iload 5, 2) := by decide +kernel
theorem dX10_catches_57 : decode cX10_catches 57 = .ok (.iadd, 1) := by decide +kernel
theorem dX10_catches_58 : decode cX10_catches 58 = .ok (.istore 6, 2) := by decide +kernel
theorem dX10_catches_60 : decode cX10_catches 60 = .ok (.iload_n 3, 1) := by decide +kernel
theorem dX10_catches_61 : decode cX10_catches 61 = .ok (.ifCond .eq 13, 3) := by decide +kernel
theorem dX10_catches_64 : decode cX10_catches 64 = .ok (.aload_n 0, 1) := by decide +kernel
theorem dX10_catches_65 : decode cX10_catches 65 = .ok (.getfield 87, 3) := by decide +kernel
theorem dX10_catches_68 : decode cX10_catches 68 = .ok (.iload 6, 2) := by decide +kernel
theorem dX10_catches_70 : decode cX10_catches 70 = .ok (.iaload, 1) := by decide +kernel
theorem dX10_catches_71 : decode cX10_catches 71 = .ok (.goto 10, 3) := by decide +kernel
theorem dX10_catches_74 : decode cX10_catches 74 = .ok (.aload_n 0, 1) := by decide +kernel
theorem dX10_catches_75 : decode cX10_catches 75 = .ok (.getfield 32, 3) := by decide +kernel
theorem dX10_catches_78 : decode cX10_catches 78 = .ok (.iload 6, 2) := by decide +kernel
theorem dX10_catches_80 : decode cX10_catches 80 = .ok (.iaload, 1) := by decide +kernel
theorem dX10_catches_81 : decode cX10_catches 81 = .ok (.istore 7, 2) := by decide +kernel
theorem dX10_catches_83 : decode cX10_catches 83 = .ok (.iload_n 3, 1) := by decide +kernel
theorem dX10_catches_84 : decode cX10_catches 84 = .ok (.ifCond .eq 13, 3) := by decide +kernel
theorem dX10_catches_87 : decode cX10_catches 87 = .ok (.aload_n 0, 1) := by decide +kernel
theorem dX10_catches_88 : decode cX10_catches 88 = .ok (.getfield 90, 3) := by decide +kernel
theorem dX10_catches_91 : decode cX10_catches 91 = .ok (.iload 6, 2) := by decide +kernel
theorem dX10_catches_93 : decode cX10_catches 93 = .ok (.iaload, 1) := by decide +kernel
theorem dX10_catches_94 : decode cX10_catches 94 = .ok (.goto 10, 3) := by decide +kernel
theorem dX10_catches_97 : decode cX10_catches 97 = .ok (.aload_n 0, 1) := by decide +kernel
theorem dX10_catches_98 : decode cX10_catches 98 = .ok (.getfield 35, 3) := by decide +kernel
theorem dX10_catches_101 : decode cX10_catches 101 = .ok (.iload 6, 2) := by decide +kernel
theorem dX10_catches_103 : decode cX10_catches 103 = .ok (.iaload, 1) := by decide +kernel
theorem dX10_catches_104 : decode cX10_catches 104 = .ok (.istore 8, 2) := by decide +kernel
theorem dX10_catches_106 : decode cX10_catches 106 = .ok (.iload_n 3, 1) := by decide +kernel
theorem dX10_catches_107 : decode cX10_catches 107 = .ok (.ifCond .eq 13, 3) := by decide +kernel
theorem dX10_catches_110 : decode cX10_catches 110 = .ok (.aload_n 0, 1) := by decide +kernel
theorem dX10_catches_111 : decode cX10_catches 111 = .ok (.getfield 96, 3) := by decide +kernel
theorem dX10_catches_114 : decode cX10_catches 114 = .ok (.iload 6, 2) := by decide +kernel
theorem dX10_catches_116 : decode cX10_catches 116 = .ok (.iaload, 1) := by decide +kernel
theorem dX10_catches_117 : decode cX10_catches 117 = .ok (.goto 10, 3) := by decide +kernel
theorem dX10_catches_120 : decode cX10_catches 120 = .ok (.aload_n 0, 1) := by decide +kernel
theorem dX10_catches_121 : decode cX10_catches 121 = .ok (.getfield 41, 3) := by decide +kernel
theorem dX10_catches_124 : decode cX10_catches 124 = .ok (.iload 6, 2) := by decide +kernel
theorem dX10_catches_126 : decode cX10_catches 126 = .ok (.iaload, 1) := by decide +kernel
theorem dX10_catches_127 : decode cX10_catches 127 = .ok (.istore 9, 2) := by decide +kernel
theorem dX10_catches_129 : decode cX10_catches 129 = .ok (.iload 7, 2) := by decide +kernel
theorem dX10_catches_131 : decode cX10_catches 131 = .ok (.iload_n 2, 1) := by decide +kernel
theorem dX10_catches_132 : decode cX10_catches 132 = .ok (.if_icmp .gt 26, 3) := by decide +kernel
theorem dX10_catches_135 : decode cX10_catches 135 = .ok (.iload_n 2, 1) := by decide +kernel
theorem dX10_catches_136 : decode cX10_catches 136 = .ok (.iload 8, 2) := by decide +kernel
theorem dX10_catches_138 : decode cX10_catches 138 = .ok (.if_icmp .ge 20, 3) := by decide +kernel
theorem dX10_catches_141 : decode cX10_catches 141 = .ok (.iload 9, 2) := by decide +kernel
theorem dX10_catches_143 : decode cX10_catches 143 = .ok (.ifCond .eq 12, 3) := by decide +kernel
theorem dX10_catches_146 : decode cX10_catches 146 = .ok (.iload 9, 2) := by decide +kernel
theorem dX10_catches_148 : decode cX10_catches 148 = .ok (.aload_n 0, 1) := by decide +kernel
theorem dX10_catches_149 : decode cX10_catches 149 = .ok (.getfield 424, 3) := by decide +kernel
theorem dX10_catches_152 : decode cX10_catches 152 = .ok (.if_icmp .ne 6, 3) := by decide +kernel
theorem dX10_catches_155 : decode cX10_catches 155 = .ok (.iload 6, 2) := by decide +kernel
theorem dX10_catches_157 : decode cX10_catches 157 = .ok (.ireturn, 1) := by decide +kernel
theorem dX10_catches_158 : decode cX10_catches 158 = .ok (.iinc 5 1, 3) := by decide +kernel
theorem dX10_catches_161 : decode cX10_catches 161 = .ok (.goto (-131), 3) := by decide +kernel
theorem dX10_catches_164 : decode cX10_catches 164 = .ok (.iconst (-1), 1) := by decide +kernel
theorem dX10_catches_165 : decode cX10_catches 165 = .ok (.ireturn, 1) := by decide +kernel
theorem dX10_caught_0 : decode cX10_caught 0 = .ok (.aload_n 0, 1) := by decide +kernel
theorem dX10_caught_1 : decode cX10_caught 1 = .ok (.iload_n 1, 1) := by decide +kernel
theorem dX10_caught_2 : decode cX10_caught 2 = .ok (.invokevirtual 445, 3) := by decide +kernel
theorem dX10_caught_5 : decode cX10_caught 5 = .ok (.ifCond .eq 12, 3) := by decide +kernel
theorem dX10_caught_8 : decode cX10_caught 8 = .ok (.aload_n 0, 1) := by decide +kernel
theorem dX10_caught_9 : decode cX10_caught 9 = .ok (.getfield 93, 3) := by decide +kernel
theorem dX10_caught_12 : decode cX10_caught 12 = .ok (.iload_n 2, 1) := by decide +kernel
theorem dX10_caught_13 : decode cX10_caught 13 = .ok (.iaload, 1) := by decide +kernel
theorem dX10_caught_14 : decode cX10_caught 14 = .ok (.goto 9, 3) := by decide +kernel
theorem dX10_caught_17 : decode cX10_caught 17 = .ok (.aload_n 0, 1) := by decide +kernel
theorem dX10_caught_18 : decode cX10_caught 18 = .ok (.getfield 38, 3) := by decide +kernel
theorem dX10_caught_21 : decode cX10_caught 21 = .ok (.iload_n 2, 1) := by decide +kernel
theorem dX10_caught_22 : decode cX10_caught 22 = .ok (.iaload, 1) := by decide +kernel
theorem dX10_caught_23 : decode cX10_caught 23 = .ok (.istore_n 3, 1) := by decide +kernel
theorem dX10_caught_24 : decode cX10_caught 24 = .ok (.aload_n 0, 1) := by decide +kernel
theorem dX10_caught_25 : decode cX10_caught 25 = .ok (.getfield 141, 3) := by decide +kernel
theorem dX10_caught_28 : decode cX10_caught 28 = .ok (.aload_n 0, 1) := by decide +kernel
theorem dX10_caught_29 : decode cX10_caught 29 = .ok (.getfield 415, 3) := by decide +kernel
theorem dX10_caught_32 : decode cX10_caught 32 = .ok (.iconst 1, 1) := by decide +kernel
theorem dX10_caught_33 : decode cX10_caught 33 = .ok (.isub, 1) := by decide +kernel
theorem dX10_caught_34 : decode cX10_caught 34 = .ok (.iconst 0, 1) := by decide +kernel
theorem dX10_caught_35 : decode cX10_caught 35 = .ok (.iastore, 1) := by decide +kernel
theorem dX10_caught_36 : decode cX10_caught 36 = .ok (.aload_n 0, 1) := by decide +kernel
theorem dX10_caught_37 : decode cX10_caught 37 = .ok (.aload_n 0, 1) := by decide +kernel
theorem dX10_caught_38 : decode cX10_caught 38 = .ok (.getfield 424, 3) := by decide +kernel
theorem dX10_caught_41 : decode cX10_caught 41 = .ok (.invokevirtual 510, 3) := by decide +kernel
theorem dX10_caught_44 : decode cX10_caught 44 = .ok (.aload_n 0, 1) := by decide +kernel
theorem dX10_caught_45 : decode cX10_caught 45 = .ok (.getfield 138, 3) := by decide +kernel
theorem dX10_caught_48 : decode cX10_caught 48 = .ok (.aload_n 0, 1) := by decide +kernel
theorem dX10_caught_49 : decode cX10_caught 49 = .ok (.getfield 415, 3) := by decide +kernel
theorem dX10_caught_52 : decode cX10_caught 52 = .ok (.iconst 1, 1) := by decide +kernel
theorem dX10_caught_53 : decode cX10_caught 53 = .ok (.isub, 1) := by decide +kernel
theorem dX10_caught_54 : decode cX10_caught 54 = .ok (.iload_n 3, 1) := by decide +kernel
theorem dX10_caught_55 : decode cX10_caught 55 = .ok (.iastore, 1) := by decide +kernel
theorem dX10_caught_56 : decode cX10_caught 56 = .ok (.iconst 0, 1) := by decide +kernel
theorem dX10_caught_57 : decode cX10_caught 57 = .ok (.istore 4, 2) := by decide +kernel
theorem dX10_caught_59 : decode cX10_caught 59 = .ok (.iload 4, 2) := by decide +kernel
theorem dX10_caught_61 : decode cX10_caught 61 = .ok (.aload_n 0, 1) := by decide +kernel
theorem dX10_caught_62 : decode cX10_caught 62 = .ok (.iload_n 1, 1) := by decide +kernel
theorem dX10_caught_63 : decode cX10_caught 63 = .ok (.invokevirtual 436, 3) := by decide +kernel
theorem dX10_caught_66 : decode cX10_caught 66 = .ok (.if_icmp .ge 35, 3) := by decide +kernel
theorem dX10_caught_69 : decode cX10_caught 69 = .ok (.aload_n 0, 1) := by decide +kernel
theorem dX10_caught_70 : decode cX10_caught 70 = .ok (.iload 4, 2) := by decide +kernel
theorem dX10_caught_72 : decode cX10_caught 72 = .ok (.iconst 5, 1) := by decide +kernel
theorem dX10_caught_73 : decode cX10_caught 73 = .ok (.iload_n 1, 1) := by decide +kernel
theorem dX10_caught_74 : decode cX10_caught 74 = .ok (.iload_n 3, 1) := by decide +kernel
theorem dX10_caught_75 : decode cX10_caught 75 = .ok (.aload_n 0, 1) := by decide +kernel
theorem dX10_caught_76 : decode cX10_caught 76 = .ok (.getfield 335, 3) := by decide +kernel
theorem dX10_caught_79 : decode cX10_caught 79 = .ok (.invokevirtual 338, 3) := by decide +kernel
theorem dX10_caught_82 : decode cX10_caught 82 = .ok (.ifCond .eq 13, 3) := by decide +kernel
theorem dX10_caught_85 : decode cX10_caught 85 = .ok (.aload_n 0, 1) := by decide +kernel
theorem dX10_caught_86 : decode cX10_caught 86 = .ok (.iload 4, 2) := by decide +kernel
theorem dX10_caught_88 : decode cX10_caught 88 = .ok (.aload_n 0, 1) := by decide +kernel
theorem dX10_caught_89 : decode cX10_caught 89 = .ok (.getfield 424, 3) := by decide +kernel
theorem dX10_caught_92 : decode cX10_caught 92 = .ok (.invokevirtual 442, 3) := by decide +kernel
theorem dX10_caught_95 : decode cX10_caught 95 = .ok (.iinc 4 1, 3) := by decide +kernel
theorem dX10_caught_98 : decode cX10_caught 98 = .ok (.goto (-39), 3) := by decide +kernel
theorem dX10_caught_101 : decode cX10_caught 101 = .ok (.return_, 1) := by decide +kernel
theorem dX10_jumpTo_0 : decode cX10_jumpTo 0 = .ok (.iload_n 2, 1) := by decide +kernel
theorem dX10_jumpTo_1 : decode cX10_jumpTo 1 = .ok (.iload_n 3, 1) := by decide +kernel
theorem dX10_jumpTo_2 : decode cX10_jumpTo 2 = .ok (.bipush 33, 2) := by decide +kernel
theorem dX10_jumpTo_4 : decode cX10_jumpTo 4 = .ok (.if_icmp .ge 17, 3) := by decide +kernel
theorem dX10_jumpTo_7 : decode cX10_jumpTo 7 = .ok (.aload_n 0, 1) := by decide +kernel
theorem dX10_jumpTo_8 : decode cX10_jumpTo 8 = .ok (.iload_n 1, 1) := by decide +kernel
theorem dX10_jumpTo_9 : decode cX10_jumpTo 9 = .ok (.iload_n 2, 1) := by decide +kernel
theorem dX10_jumpTo_10 : decode cX10_jumpTo 10 = .ok (.iconst 1, 1) := by decide +kernel
theorem dX10_jumpTo_11 : decode cX10_jumpTo 11 = .ok (.iadd, 1) := by decide +kernel
theorem dX10_jumpTo_12 : decode cX10_jumpTo 12 = .ok (.invokevirtual 448, 3) := by decide +kernel
theorem dX10_jumpTo_15 : decode cX10_jumpTo 15 = .ok (.invokestatic 229, 3) := by decide +kernel
theorem dX10_jumpTo_18 : decode cX10_jumpTo 18 = .ok (.goto 22, 3) := by decide +kernel
theorem dX10_jumpTo_21 : decode cX10_jumpTo 21 = .ok (.aload_n 0, 1) := by decide +kernel
theorem dX10_jumpTo_22 : decode cX10_jumpTo 22 = .ok (.iload_n 1, 1) := by decide +kernel
theorem dX10_jumpTo_23 : decode cX10_jumpTo 23 = .ok (.iload_n 2, 1) := by decide +kernel
theorem dX10_jumpTo_24 : decode cX10_jumpTo 24 = .ok (.iconst 1, 1) := by decide +kernel
theorem dX10_jumpTo_25 : decode cX10_jumpTo 25 = .ok (.iadd, 1) := by decide +kernel
theorem dX10_jumpTo_26 : decode cX10_jumpTo 26 = .ok (.invokevirtual 448, 3) := by decide +kernel
theorem dX10_jumpTo_29 : decode cX10_jumpTo 29 = .ok (.aload_n 0, 1) := by decide +kernel
theorem dX10_jumpTo_30 : decode cX10_jumpTo 30 = .ok (.iload_n 1, 1) := by decide +kernel
theorem dX10_jumpTo_31 : decode cX10_jumpTo 31 = .ok (.iload_n 2, 1) := by decide +kernel
theorem dX10_jumpTo_32 : decode cX10_jumpTo 32 = .ok (.iconst 2, 1) := by decide +kernel
theorem dX10_jumpTo_33 : decode cX10_jumpTo 33 = .ok (.iadd, 1) := by decide +kernel
theorem dX10_jumpTo_34 : decode cX10_jumpTo 34 = .ok (.invokevirtual 448, 3) := by decide +kernel
theorem dX10_jumpTo_37 : decode cX10_jumpTo 37 = .ok (.invokestatic 226, 3) := by decide +kernel
theorem dX10_jumpTo_40 : decode cX10_jumpTo 40 = .ok (.iadd, 1) := by decide +kernel
theorem dX10_jumpTo_41 : decode cX10_jumpTo 41 = .ok (.ireturn, 1) := by decide +kernel
theorem dX10_holds_0 : decode cX10_holds 0 = .ok (.iload_n 0, 1) := by decide +kernel
theorem dX10_holds_1 : decode cX10_holds 1 = .ok (.tableswitch 90 0 4 #[35, 46, 57, 68, 79], 35) := by decide +kernel
theorem dX10_holds_36 : decode cX10_holds 36 = .ok (.iload_n 1, 1) := by decide +kernel
theorem dX10_holds_37 : decode cX10_holds 37 = .ok (.iload_n 2, 1) := by decide +kernel
theorem dX10_holds_38 : decode cX10_holds 38 = .ok (.if_icmp .ne 7, 3) := by decide +kernel
theorem dX10_holds_41 : decode cX10_holds 41 = .ok (.iconst 1, 1) := by decide +kernel
theorem dX10_holds_42 : decode cX10_holds 42 = .ok (.goto 4, 3) := by decide +kernel
theorem dX10_holds_45 : decode cX10_holds 45 = .ok (.iconst 0, 1) := by decide +kernel
theorem dX10_holds_46 : decode cX10_holds 46 = .ok (.ireturn, 1) := by decide +kernel
theorem dX10_holds_47 : decode cX10_holds 47 = .ok (.iload_n 1, 1) := by decide +kernel
theorem dX10_holds_48 : decode cX10_holds 48 = .ok (.iload_n 2, 1) := by decide +kernel
theorem dX10_holds_49 : decode cX10_holds 49 = .ok (.if_icmp .eq 7, 3) := by decide +kernel
theorem dX10_holds_52 : decode cX10_holds 52 = .ok (.iconst 1, 1) := by decide +kernel
theorem dX10_holds_53 : decode cX10_holds 53 = .ok (.goto 4, 3) := by decide +kernel
theorem dX10_holds_56 : decode cX10_holds 56 = .ok (.iconst 0, 1) := by decide +kernel
theorem dX10_holds_57 : decode cX10_holds 57 = .ok (.ireturn, 1) := by decide +kernel
theorem dX10_holds_58 : decode cX10_holds 58 = .ok (.iload_n 1, 1) := by decide +kernel
theorem dX10_holds_59 : decode cX10_holds 59 = .ok (.iload_n 2, 1) := by decide +kernel
theorem dX10_holds_60 : decode cX10_holds 60 = .ok (.if_icmp .ge 7, 3) := by decide +kernel
theorem dX10_holds_63 : decode cX10_holds 63 = .ok (.iconst 1, 1) := by decide +kernel
theorem dX10_holds_64 : decode cX10_holds 64 = .ok (.goto 4, 3) := by decide +kernel
theorem dX10_holds_67 : decode cX10_holds 67 = .ok (.iconst 0, 1) := by decide +kernel
theorem dX10_holds_68 : decode cX10_holds 68 = .ok (.ireturn, 1) := by decide +kernel
theorem dX10_holds_69 : decode cX10_holds 69 = .ok (.iload_n 1, 1) := by decide +kernel
theorem dX10_holds_70 : decode cX10_holds 70 = .ok (.iload_n 2, 1) := by decide +kernel
theorem dX10_holds_71 : decode cX10_holds 71 = .ok (.if_icmp .lt 7, 3) := by decide +kernel
theorem dX10_holds_74 : decode cX10_holds 74 = .ok (.iconst 1, 1) := by decide +kernel
theorem dX10_holds_75 : decode cX10_holds 75 = .ok (.goto 4, 3) := by decide +kernel
theorem dX10_holds_78 : decode cX10_holds 78 = .ok (.iconst 0, 1) := by decide +kernel
theorem dX10_holds_79 : decode cX10_holds 79 = .ok (.ireturn, 1) := by decide +kernel
theorem dX10_holds_80 : decode cX10_holds 80 = .ok (.iload_n 1, 1) := by decide +kernel
theorem dX10_holds_81 : decode cX10_holds 81 = .ok (.iload_n 2, 1) := by decide +kernel
theorem dX10_holds_82 : decode cX10_holds 82 = .ok (.if_icmp .le 7, 3) := by decide +kernel
theorem dX10_holds_85 : decode cX10_holds 85 = .ok (.iconst 1, 1) := by decide +kernel
theorem dX10_holds_86 : decode cX10_holds 86 = .ok (.goto 4, 3) := by decide +kernel
theorem dX10_holds_89 : decode cX10_holds 89 = .ok (.iconst 0, 1) := by decide +kernel
theorem dX10_holds_90 : decode cX10_holds 90 = .ok (.ireturn, 1) := by decide +kernel
theorem dX10_holds_91 : decode cX10_holds 91 = .ok (.iload_n 1, 1) := by decide +kernel
theorem dX10_holds_92 : decode cX10_holds 92 = .ok (.iload_n 2, 1) := by decide +kernel
theorem dX10_holds_93 : decode cX10_holds 93 = .ok (.if_icmp .gt 7, 3) := by decide +kernel
theorem dX10_holds_96 : decode cX10_holds 96 = .ok (.iconst 1, 1) := by decide +kernel
theorem dX10_holds_97 : decode cX10_holds 97 = .ok (.goto 4, 3) := by decide +kernel
theorem dX10_holds_100 : decode cX10_holds 100 = .ok (.iconst 0, 1) := by decide +kernel
theorem dX10_holds_101 : decode cX10_holds 101 = .ok (.ireturn, 1) := by decide +kernel
theorem dX10_done_0 : decode cX10_done 0 = .ok (.iload_n 2, 1) := by decide +kernel
theorem dX10_done_1 : decode cX10_done 1 = .ok (.iload_n 3, 1) := by decide +kernel
theorem dX10_done_2 : decode cX10_done 2 = .ok (.iload_n 3, 1) := by decide +kernel
theorem dX10_done_3 : decode cX10_done 3 = .ok (.bipush 33, 2) := by decide +kernel
theorem dX10_done_5 : decode cX10_done 5 = .ok (.if_icmp .ne 14, 3) := by decide +kernel
theorem dX10_done_8 : decode cX10_done 8 = .ok (.aload_n 0, 1) := by decide +kernel
theorem dX10_done_9 : decode cX10_done 9 = .ok (.iload_n 1, 1) := by decide +kernel
theorem dX10_done_10 : decode cX10_done 10 = .ok (.iload_n 2, 1) := by decide +kernel
theorem dX10_done_11 : decode cX10_done 11 = .ok (.iconst 1, 1) := by decide +kernel
theorem dX10_done_12 : decode cX10_done 12 = .ok (.iadd, 1) := by decide +kernel
theorem dX10_done_13 : decode cX10_done 13 = .ok (.invokevirtual 448, 3) := by decide +kernel
theorem dX10_done_16 : decode cX10_done 16 = .ok (.goto 4, 3) := by decide +kernel
theorem dX10_done_19 : decode cX10_done 19 = .ok (.iconst 0, 1) := by decide +kernel
theorem dX10_done_20 : decode cX10_done 20 = .ok (.invokestatic 222, 3) := by decide +kernel
theorem dX10_done_23 : decode cX10_done 23 = .ok (.iadd, 1) := by decide +kernel
theorem dX10_done_24 : decode cX10_done 24 = .ok (.istore 5, 2) := by decide +kernel
theorem dX10_done_26 : decode cX10_done 26 = .ok (.iload_n 3, 1) := by decide +kernel
theorem dX10_done_27 : decode cX10_done 27 = .ok (.invokestatic 233, 3) := by decide +kernel
theorem dX10_done_30 : decode cX10_done 30 = .ok (.ifCond .eq 13, 3) := by decide +kernel
theorem dX10_done_33 : decode cX10_done 33 = .ok (.aload_n 0, 1) := by decide +kernel
theorem dX10_done_34 : decode cX10_done 34 = .ok (.iload_n 1, 1) := by decide +kernel
theorem dX10_done_35 : decode cX10_done 35 = .ok (.iload_n 2, 1) := by decide +kernel
theorem dX10_done_36 : decode cX10_done 36 = .ok (.iload_n 3, 1) := by decide +kernel
theorem dX10_done_37 : decode cX10_done 37 = .ok (.iload 5, 2) := by decide +kernel
theorem dX10_done_39 : decode cX10_done 39 = .ok (.invokevirtual 513, 3) := by decide +kernel
theorem dX10_done_42 : decode cX10_done 42 = .ok (.ireturn, 1) := by decide +kernel
theorem dX10_done_43 : decode cX10_done 43 = .ok (.iload_n 3, 1) := by decide +kernel
theorem dX10_done_44 : decode cX10_done 44 = .ok (.bipush 33, 2) := by decide +kernel
theorem dX10_done_46 : decode cX10_done 46 = .ok (.if_icmp .ne 87, 3) := by decide +kernel
theorem dX10_done_49 : decode cX10_done 49 = .ok (.aload_n 0, 1) := by decide +kernel
theorem dX10_done_50 : decode cX10_done 50 = .ok (.invokevirtual 498, 3) := by decide +kernel
theorem dX10_done_53 : decode cX10_done 53 = .ok (.istore 6, 2) := by decide +kernel
theorem dX10_done_55 : decode cX10_done 55 = .ok (.aload_n 0, 1) := by decide +kernel
theorem dX10_done_56 : decode cX10_done 56 = .ok (.iload_n 1, 1) := by decide +kernel
theorem dX10_done_57 : decode cX10_done 57 = .ok (.iload_n 2, 1) := by decide +kernel
theorem dX10_done_58 : decode cX10_done 58 = .ok (.iconst 1, 1) := by decide +kernel
theorem dX10_done_59 : decode cX10_done 59 = .ok (.iadd, 1) := by decide +kernel
theorem dX10_done_60 : decode cX10_done 60 = .ok (.invokevirtual 448, 3) := by decide +kernel
theorem dX10_done_63 : decode cX10_done 63 = .ok (.istore 7, 2) := by decide +kernel
theorem dX10_done_65 : decode cX10_done 65 = .ok (.iload 6, 2) := by decide +kernel
theorem dX10_done_67 : decode cX10_done 67 = .ok (.iconst 0, 1) := by decide +kernel
theorem dX10_done_68 : decode cX10_done 68 = .ok (.iload 7, 2) := by decide +kernel
theorem dX10_done_70 : decode cX10_done 70 = .ok (.iconst 1, 1) := by decide +kernel
theorem dX10_done_71 : decode cX10_done 71 = .ok (.isub, 1) := by decide +kernel
theorem dX10_done_72 : decode cX10_done 72 = .ok (.invokestatic 217, 3) := by decide +kernel
theorem dX10_done_75 : decode cX10_done 75 = .ok (.ifCond .eq 10, 3) := by decide +kernel
theorem dX10_done_78 : decode cX10_done 78 = .ok (.iload 6, 2) := by decide +kernel
theorem dX10_done_80 : decode cX10_done 80 = .ok (.iconst 1, 1) := by decide +kernel
theorem dX10_done_81 : decode cX10_done 81 = .ok (.iadd, 1) := by decide +kernel
theorem dX10_done_82 : decode cX10_done 82 = .ok (.goto 4, 3) := by decide +kernel
theorem dX10_done_85 : decode cX10_done 85 = .ok (.iconst 0, 1) := by decide +kernel
theorem dX10_done_86 : decode cX10_done 86 = .ok (.istore 8, 2) := by decide +kernel
theorem dX10_done_88 : decode cX10_done 88 = .ok (.aload_n 0, 1) := by decide +kernel
theorem dX10_done_89 : decode cX10_done 89 = .ok (.getfield 138, 3) := by decide +kernel
theorem dX10_done_92 : decode cX10_done 92 = .ok (.aload_n 0, 1) := by decide +kernel
theorem dX10_done_93 : decode cX10_done 93 = .ok (.getfield 415, 3) := by decide +kernel
theorem dX10_done_96 : decode cX10_done 96 = .ok (.iconst 1, 1) := by decide +kernel
theorem dX10_done_97 : decode cX10_done 97 = .ok (.isub, 1) := by decide +kernel
theorem dX10_done_98 : decode cX10_done 98 = .ok (.iload_n 2, 1) := by decide +kernel
theorem dX10_done_99 : decode cX10_done 99 = .ok (.aload_n 0, 1) := by decide +kernel
theorem dX10_done_100 : decode cX10_done 100 = .ok (.iload_n 1, 1) := by decide +kernel
theorem dX10_done_101 : decode cX10_done 101 = .ok (.iload_n 2, 1) := by decide +kernel
theorem dX10_done_102 : decode cX10_done 102 = .ok (.iconst 2, 1) := by decide +kernel
theorem dX10_done_103 : decode cX10_done 103 = .ok (.iadd, 1) := by decide +kernel
theorem dX10_done_104 : decode cX10_done 104 = .ok (.iconst 2, 1) := by decide +kernel
theorem dX10_done_105 : decode cX10_done 105 = .ok (.iload 8, 2) := by decide +kernel
theorem dX10_done_107 : decode cX10_done 107 = .ok (.imul, 1) := by decide +kernel
theorem dX10_done_108 : decode cX10_done 108 = .ok (.iadd, 1) := by decide +kernel
theorem dX10_done_109 : decode cX10_done 109 = .ok (.invokevirtual 448, 3) := by decide +kernel
theorem dX10_done_112 : decode cX10_done 112 = .ok (.aload_n 0, 1) := by decide +kernel
theorem dX10_done_113 : decode cX10_done 113 = .ok (.iload_n 1, 1) := by decide +kernel
theorem dX10_done_114 : decode cX10_done 114 = .ok (.iload_n 2, 1) := by decide +kernel
theorem dX10_done_115 : decode cX10_done 115 = .ok (.iconst 3, 1) := by decide +kernel
theorem dX10_done_116 : decode cX10_done 116 = .ok (.iadd, 1) := by decide +kernel
theorem dX10_done_117 : decode cX10_done 117 = .ok (.iconst 2, 1) := by decide +kernel
theorem dX10_done_118 : decode cX10_done 118 = .ok (.iload 8, 2) := by decide +kernel
theorem dX10_done_120 : decode cX10_done 120 = .ok (.imul, 1) := by decide +kernel
theorem dX10_done_121 : decode cX10_done 121 = .ok (.iadd, 1) := by decide +kernel
theorem dX10_done_122 : decode cX10_done 122 = .ok (.invokevirtual 448, 3) := by decide +kernel
theorem dX10_done_125 : decode cX10_done 125 = .ok (.invokestatic 226, 3) := by decide +kernel
theorem dX10_done_128 : decode cX10_done 128 = .ok (.iadd, 1) := by decide +kernel
theorem dX10_done_129 : decode cX10_done 129 = .ok (.iastore, 1) := by decide +kernel
theorem dX10_done_130 : decode cX10_done 130 = .ok (.goto 68, 3) := by decide +kernel
theorem dX10_done_133 : decode cX10_done 133 = .ok (.iload_n 3, 1) := by decide +kernel
theorem dX10_done_134 : decode cX10_done 134 = .ok (.bipush 40, 2) := by decide +kernel
theorem dX10_done_136 : decode cX10_done 136 = .ok (.if_icmp .ne 18, 3) := by decide +kernel
theorem dX10_done_139 : decode cX10_done 139 = .ok (.aload_n 0, 1) := by decide +kernel
theorem dX10_done_140 : decode cX10_done 140 = .ok (.aload_n 0, 1) := by decide +kernel
theorem dX10_done_141 : decode cX10_done 141 = .ok (.iload_n 1, 1) := by decide +kernel
theorem dX10_done_142 : decode cX10_done 142 = .ok (.iload_n 2, 1) := by decide +kernel
theorem dX10_done_143 : decode cX10_done 143 = .ok (.iconst 1, 1) := by decide +kernel
theorem dX10_done_144 : decode cX10_done 144 = .ok (.iadd, 1) := by decide +kernel
theorem dX10_done_145 : decode cX10_done 145 = .ok (.invokevirtual 448, 3) := by decide +kernel
theorem dX10_done_148 : decode cX10_done 148 = .ok (.invokevirtual 515, 3) := by decide +kernel
theorem dX10_done_151 : decode cX10_done 151 = .ok (.goto 47, 3) := by decide +kernel
theorem dX10_done_154 : decode cX10_done 154 = .ok (.iload_n 3, 1) := by decide +kernel
theorem dX10_done_155 : decode cX10_done 155 = .ok (.bipush 42, 2) := by decide +kernel
theorem dX10_done_157 : decode cX10_done 157 = .ok (.if_icmp .ne 10, 3) := by decide +kernel
theorem dX10_done_160 : decode cX10_done 160 = .ok (.aload_n 0, 1) := by decide +kernel
theorem dX10_done_161 : decode cX10_done 161 = .ok (.invokevirtual 518, 3) := by decide +kernel
theorem dX10_done_164 : decode cX10_done 164 = .ok (.goto 34, 3) := by decide +kernel
theorem dX10_done_167 : decode cX10_done 167 = .ok (.aload_n 0, 1) := by decide +kernel
theorem dX10_done_168 : decode cX10_done 168 = .ok (.iload_n 1, 1) := by decide +kernel
theorem dX10_done_169 : decode cX10_done 169 = .ok (.iload_n 2, 1) := by decide +kernel
theorem dX10_done_170 : decode cX10_done 170 = .ok (.iload_n 3, 1) := by decide +kernel
theorem dX10_done_171 : decode cX10_done 171 = .ok (.invokevirtual 521, 3) := by decide +kernel
theorem dX10_done_174 : decode cX10_done 174 = .ok (.aload_n 0, 1) := by decide +kernel
theorem dX10_done_175 : decode cX10_done 175 = .ok (.getfield 138, 3) := by decide +kernel
theorem dX10_done_178 : decode cX10_done 178 = .ok (.aload_n 0, 1) := by decide +kernel
theorem dX10_done_179 : decode cX10_done 179 = .ok (.getfield 415, 3) := by decide +kernel
theorem dX10_done_182 : decode cX10_done 182 = .ok (.iconst 1, 1) := by decide +kernel
theorem dX10_done_183 : decode cX10_done 183 = .ok (.isub, 1) := by decide +kernel
theorem dX10_done_184 : decode cX10_done 184 = .ok (.aload_n 0, 1) := by decide +kernel
theorem dX10_done_185 : decode cX10_done 185 = .ok (.getfield 424, 3) := by decide +kernel
theorem dX10_done_188 : decode cX10_done 188 = .ok (.ifCond .ne 8, 3) := by decide +kernel
theorem dX10_done_191 : decode cX10_done 191 = .ok (.iload 5, 2) := by decide +kernel
theorem dX10_done_193 : decode cX10_done 193 = .ok (.goto 4, 3) := by decide +kernel
theorem dX10_done_196 : decode cX10_done 196 = .ok (.iload_n 2, 1) := by decide +kernel
theorem dX10_done_197 : decode cX10_done 197 = .ok (.iastore, 1) := by decide +kernel
theorem dX10_done_198 : decode cX10_done 198 = .ok (.iconst 0, 1) := by decide +kernel
theorem dX10_done_199 : decode cX10_done 199 = .ok (.ireturn, 1) := by decide +kernel
theorem dX10_jump__0 : decode cX10_jump_ 0 = .ok (.iload_n 3, 1) := by decide +kernel
theorem dX10_jump__1 : decode cX10_jump_ 1 = .ok (.bipush 43, 2) := by decide +kernel
theorem dX10_jump__3 : decode cX10_jump_ 3 = .ok (.if_icmp .le 10, 3) := by decide +kernel
theorem dX10_jump__6 : decode cX10_jump_ 6 = .ok (.iload_n 3, 1) := by decide +kernel
theorem dX10_jump__7 : decode cX10_jump_ 7 = .ok (.bipush 64, 2) := by decide +kernel
theorem dX10_jump__9 : decode cX10_jump_ 9 = .ok (.isub, 1) := by decide +kernel
theorem dX10_jump__10 : decode cX10_jump_ 10 = .ok (.goto 4, 3) := by decide +kernel
theorem dX10_jump__13 : decode cX10_jump_ 13 = .ok (.iload_n 3, 1) := by decide +kernel
theorem dX10_jump__14 : decode cX10_jump_ 14 = .ok (.istore 5, 2) := by decide +kernel
theorem dX10_jump__16 : decode cX10_jump_ 16 = .ok (.iconst 1, 1) := by decide +kernel
theorem dX10_jump__17 : decode cX10_jump_ 17 = .ok (.istore 6, 2) := by decide +kernel
theorem dX10_jump__19 : decode cX10_jump_ 19 = .ok (.iload 5, 2) := by decide +kernel
theorem dX10_jump__21 : decode cX10_jump_ 21 = .ok (.bipush 27, 2) := by decide +kernel
theorem dX10_jump__23 : decode cX10_jump_ 23 = .ok (.if_icmp .lt 32, 3) := by decide +kernel
theorem dX10_jump__26 : decode cX10_jump_ 26 = .ok (.aload_n 0, 1) := by decide +kernel
theorem dX10_jump__27 : decode cX10_jump_ 27 = .ok (.invokevirtual 498, 3) := by decide +kernel
theorem dX10_jump__30 : decode cX10_jump_ 30 = .ok (.istore 7, 2) := by decide +kernel
theorem dX10_jump__32 : decode cX10_jump_ 32 = .ok (.aload_n 0, 1) := by decide +kernel
theorem dX10_jump__33 : decode cX10_jump_ 33 = .ok (.invokevirtual 498, 3) := by decide +kernel
theorem dX10_jump__36 : decode cX10_jump_ 36 = .ok (.istore 8, 2) := by decide +kernel
theorem dX10_jump__38 : decode cX10_jump_ 38 = .ok (.iload 5, 2) := by decide +kernel
theorem dX10_jump__40 : decode cX10_jump_ 40 = .ok (.bipush 27, 2) := by decide +kernel
theorem dX10_jump__42 : decode cX10_jump_ 42 = .ok (.isub, 1) := by decide +kernel
theorem dX10_jump__43 : decode cX10_jump_ 43 = .ok (.iload 8, 2) := by decide +kernel
theorem dX10_jump__45 : decode cX10_jump_ 45 = .ok (.iload 7, 2) := by decide +kernel
theorem dX10_jump__47 : decode cX10_jump_ 47 = .ok (.invokestatic 524, 3) := by decide +kernel
theorem dX10_jump__50 : decode cX10_jump_ 50 = .ok (.istore 6, 2) := by decide +kernel
theorem dX10_jump__52 : decode cX10_jump_ 52 = .ok (.goto 25, 3) := by decide +kernel
theorem dX10_jump__55 : decode cX10_jump_ 55 = .ok (.iload 5, 2) := by decide +kernel
theorem dX10_jump__57 : decode cX10_jump_ 57 = .ok (.bipush 21, 2) := by decide +kernel
theorem dX10_jump__59 : decode cX10_jump_ 59 = .ok (.if_icmp .lt 18, 3) := by decide +kernel
theorem dX10_jump__62 : decode cX10_jump_ 62 = .ok (.iload 5, 2) := by decide +kernel
theorem dX10_jump__64 : decode cX10_jump_ 64 = .ok (.bipush 21, 2) := by decide +kernel
theorem dX10_jump__66 : decode cX10_jump_ 66 = .ok (.isub, 1) := by decide +kernel
theorem dX10_jump__67 : decode cX10_jump_ 67 = .ok (.aload_n 0, 1) := by decide +kernel
theorem dX10_jump__68 : decode cX10_jump_ 68 = .ok (.invokevirtual 498, 3) := by decide +kernel
theorem dX10_jump__71 : decode cX10_jump_ 71 = .ok (.iconst 0, 1) := by decide +kernel
theorem dX10_jump__72 : decode cX10_jump_ 72 = .ok (.invokestatic 524, 3) := by decide +kernel
theorem dX10_jump__75 : decode cX10_jump_ 75 = .ok (.istore 6, 2) := by decide +kernel
theorem dX10_jump__77 : decode cX10_jump_ 77 = .ok (.aload_n 0, 1) := by decide +kernel
theorem dX10_jump__78 : decode cX10_jump_ 78 = .ok (.getfield 138, 3) := by decide +kernel
theorem dX10_jump__81 : decode cX10_jump_ 81 = .ok (.aload_n 0, 1) := by decide +kernel
theorem dX10_jump__82 : decode cX10_jump_ 82 = .ok (.getfield 415, 3) := by decide +kernel
theorem dX10_jump__85 : decode cX10_jump_ 85 = .ok (.iconst 1, 1) := by decide +kernel
theorem dX10_jump__86 : decode cX10_jump_ 86 = .ok (.isub, 1) := by decide +kernel
theorem dX10_jump__87 : decode cX10_jump_ 87 = .ok (.iload 6, 2) := by decide +kernel
theorem dX10_jump__89 : decode cX10_jump_ 89 = .ok (.ifCond .eq 13, 3) := by decide +kernel
theorem dX10_jump__92 : decode cX10_jump_ 92 = .ok (.aload_n 0, 1) := by decide +kernel
theorem dX10_jump__93 : decode cX10_jump_ 93 = .ok (.iload_n 1, 1) := by decide +kernel
theorem dX10_jump__94 : decode cX10_jump_ 94 = .ok (.iload_n 2, 1) := by decide +kernel
theorem dX10_jump__95 : decode cX10_jump_ 95 = .ok (.iload_n 3, 1) := by decide +kernel
theorem dX10_jump__96 : decode cX10_jump_ 96 = .ok (.invokevirtual 454, 3) := by decide +kernel
theorem dX10_jump__99 : decode cX10_jump_ 99 = .ok (.goto 5, 3) := by decide +kernel
theorem dX10_jump__102 : decode cX10_jump_ 102 = .ok (.iload 4, 2) := by decide +kernel
theorem dX10_jump__104 : decode cX10_jump_ 104 = .ok (.iastore, 1) := by decide +kernel
theorem dX10_jump__105 : decode cX10_jump_ 105 = .ok (.iload 6, 2) := by decide +kernel
theorem dX10_jump__107 : decode cX10_jump_ 107 = .ok (.ireturn, 1) := by decide +kernel
theorem dX10_call_0 : decode cX10_call 0 = .ok (.aload_n 0, 1) := by decide +kernel
theorem dX10_call_1 : decode cX10_call 1 = .ok (.getfield 415, 3) := by decide +kernel
theorem dX10_call_4 : decode cX10_call 4 = .ok (.bipush 12, 2) := by decide +kernel
theorem dX10_call_6 : decode cX10_call 6 = .ok (.if_icmp .ne 10, 3) := by decide +kernel
theorem dX10_call_9 : decode cX10_call 9 = .ok (.aload_n 0, 1) := by decide +kernel
theorem dX10_call_10 : decode cX10_call 10 = .ok (.bipush 105, 2) := by decide +kernel
theorem dX10_call_12 : decode cX10_call 12 = .ok (.putfield 424, 3) := by decide +kernel
theorem dX10_call_15 : decode cX10_call 15 = .ok (.return_, 1) := by decide +kernel
theorem dX10_call_16 : decode cX10_call 16 = .ok (.aload_n 0, 1) := by decide +kernel
theorem dX10_call_17 : decode cX10_call 17 = .ok (.getfield 17, 3) := by decide +kernel
theorem dX10_call_20 : decode cX10_call 20 = .ok (.iload_n 1, 1) := by decide +kernel
theorem dX10_call_21 : decode cX10_call 21 = .ok (.iaload, 1) := by decide +kernel
theorem dX10_call_22 : decode cX10_call 22 = .ok (.istore_n 2, 1) := by decide +kernel
theorem dX10_call_23 : decode cX10_call 23 = .ok (.aload_n 0, 1) := by decide +kernel
theorem dX10_call_24 : decode cX10_call 24 = .ok (.getfield 415, 3) := by decide +kernel
theorem dX10_call_27 : decode cX10_call 27 = .ok (.iconst 1, 1) := by decide +kernel
theorem dX10_call_28 : decode cX10_call 28 = .ok (.isub, 1) := by decide +kernel
theorem dX10_call_29 : decode cX10_call 29 = .ok (.istore_n 3, 1) := by decide +kernel
theorem dX10_call_30 : decode cX10_call 30 = .ok (.aload_n 0, 1) := by decide +kernel
theorem dX10_call_31 : decode cX10_call 31 = .ok (.getfield 141, 3) := by decide +kernel
theorem dX10_call_34 : decode cX10_call 34 = .ok (.iload_n 3, 1) := by decide +kernel
theorem dX10_call_35 : decode cX10_call 35 = .ok (.dup2, 1) := by decide +kernel
theorem dX10_call_36 : decode cX10_call 36 = .ok (.iaload, 1) := by decide +kernel
theorem dX10_call_37 : decode cX10_call 37 = .ok (.iload_n 2, 1) := by decide +kernel
theorem dX10_call_38 : decode cX10_call 38 = .ok (.isub, 1) := by decide +kernel
theorem dX10_call_39 : decode cX10_call 39 = .ok (.iastore, 1) := by decide +kernel
theorem dX10_call_40 : decode cX10_call 40 = .ok (.aload_n 0, 1) := by decide +kernel
theorem dX10_call_41 : decode cX10_call 41 = .ok (.iload_n 1, 1) := by decide +kernel
theorem dX10_call_42 : decode cX10_call 42 = .ok (.invokevirtual 397, 3) := by decide +kernel
theorem dX10_call_45 : decode cX10_call 45 = .ok (.iconst 0, 1) := by decide +kernel
theorem dX10_call_46 : decode cX10_call 46 = .ok (.istore 4, 2) := by decide +kernel
theorem dX10_call_48 : decode cX10_call 48 = .ok (.iload 4, 2) := by decide +kernel
theorem dX10_call_50 : decode cX10_call 50 = .ok (.iload_n 2, 1) := by decide +kernel
theorem dX10_call_51 : decode cX10_call 51 = .ok (.if_icmp .ge 42, 3) := by decide +kernel
theorem dX10_call_54 : decode cX10_call 54 = .ok (.aload_n 0, 1) := by decide +kernel
theorem dX10_call_55 : decode cX10_call 55 = .ok (.getfield 144, 3) := by decide +kernel
theorem dX10_call_58 : decode cX10_call 58 = .ok (.bipush 12, 2) := by decide +kernel
theorem dX10_call_60 : decode cX10_call 60 = .ok (.iload_n 3, 1) := by decide +kernel
theorem dX10_call_61 : decode cX10_call 61 = .ok (.iconst 1, 1) := by decide +kernel
theorem dX10_call_62 : decode cX10_call 62 = .ok (.iadd, 1) := by decide +kernel
theorem dX10_call_63 : decode cX10_call 63 = .ok (.imul, 1) := by decide +kernel
theorem dX10_call_64 : decode cX10_call 64 = .ok (.iload 4, 2) := by decide +kernel
theorem dX10_call_66 : decode cX10_call 66 = .ok (.iadd, 1) := by decide +kernel
theorem dX10_call_67 : decode cX10_call 67 = .ok (.aload_n 0, 1) := by decide +kernel
theorem dX10_call_68 : decode cX10_call 68 = .ok (.getfield 147, 3) := by decide +kernel
theorem dX10_call_71 : decode cX10_call 71 = .ok (.bipush 12, 2) := by decide +kernel
theorem dX10_call_73 : decode cX10_call 73 = .ok (.iload_n 3, 1) := by decide +kernel
theorem dX10_call_74 : decode cX10_call 74 = .ok (.imul, 1) := by decide +kernel
theorem dX10_call_75 : decode cX10_call 75 = .ok (.aload_n 0, 1) := by decide +kernel
theorem dX10_call_76 : decode cX10_call 76 = .ok (.getfield 141, 3) := by decide +kernel
theorem dX10_call_79 : decode cX10_call 79 = .ok (.iload_n 3, 1) := by decide +kernel
theorem dX10_call_80 : decode cX10_call 80 = .ok (.iaload, 1) := by decide +kernel
theorem dX10_call_81 : decode cX10_call 81 = .ok (.iadd, 1) := by decide +kernel
theorem dX10_call_82 : decode cX10_call 82 = .ok (.iload 4, 2) := by decide +kernel
theorem dX10_call_84 : decode cX10_call 84 = .ok (.iadd, 1) := by decide +kernel
theorem dX10_call_85 : decode cX10_call 85 = .ok (.iaload, 1) := by decide +kernel
theorem dX10_call_86 : decode cX10_call 86 = .ok (.iastore, 1) := by decide +kernel
theorem dX10_call_87 : decode cX10_call 87 = .ok (.iinc 4 1, 3) := by decide +kernel
theorem dX10_call_90 : decode cX10_call 90 = .ok (.goto (-42), 3) := by decide +kernel
theorem dX10_call_93 : decode cX10_call 93 = .ok (.aload_n 0, 1) := by decide +kernel
theorem dX10_call_94 : decode cX10_call 94 = .ok (.iload_n 1, 1) := by decide +kernel
theorem dX10_call_95 : decode cX10_call 95 = .ok (.invokevirtual 400, 3) := by decide +kernel
theorem dX10_call_98 : decode cX10_call 98 = .ok (.return_, 1) := by decide +kernel
theorem dX10_gives_0 : decode cX10_gives 0 = .ok (.aload_n 0, 1) := by decide +kernel
theorem dX10_gives_1 : decode cX10_gives 1 = .ok (.invokevirtual 498, 3) := by decide +kernel
theorem dX10_gives_4 : decode cX10_gives 4 = .ok (.istore_n 1, 1) := by decide +kernel
theorem dX10_gives_5 : decode cX10_gives 5 = .ok (.aload_n 0, 1) := by decide +kernel
theorem dX10_gives_6 : decode cX10_gives 6 = .ok (.dup, 1) := by decide +kernel
theorem dX10_gives_7 : decode cX10_gives 7 = .ok (.getfield 415, 3) := by decide +kernel
theorem dX10_gives_10 : decode cX10_gives 10 = .ok (.iconst 1, 1) := by decide +kernel
theorem dX10_gives_11 : decode cX10_gives 11 = .ok (.isub, 1) := by decide +kernel
theorem dX10_gives_12 : decode cX10_gives 12 = .ok (.putfield 415, 3) := by decide +kernel
theorem dX10_gives_15 : decode cX10_gives 15 = .ok (.aload_n 0, 1) := by decide +kernel
theorem dX10_gives_16 : decode cX10_gives 16 = .ok (.getfield 415, 3) := by decide +kernel
theorem dX10_gives_19 : decode cX10_gives 19 = .ok (.ifCond .ne 14, 3) := by decide +kernel
theorem dX10_gives_22 : decode cX10_gives 22 = .ok (.aload_n 0, 1) := by decide +kernel
theorem dX10_gives_23 : decode cX10_gives 23 = .ok (.iload_n 1, 1) := by decide +kernel
theorem dX10_gives_24 : decode cX10_gives 24 = .ok (.putfield 433, 3) := by decide +kernel
theorem dX10_gives_27 : decode cX10_gives 27 = .ok (.aload_n 0, 1) := by decide +kernel
theorem dX10_gives_28 : decode cX10_gives 28 = .ok (.iconst 0, 1) := by decide +kernel
theorem dX10_gives_29 : decode cX10_gives 29 = .ok (.putfield 403, 3) := by decide +kernel
theorem dX10_gives_32 : decode cX10_gives 32 = .ok (.return_, 1) := by decide +kernel
theorem dX10_gives_33 : decode cX10_gives 33 = .ok (.aload_n 0, 1) := by decide +kernel
theorem dX10_gives_34 : decode cX10_gives 34 = .ok (.getfield 135, 3) := by decide +kernel
theorem dX10_gives_37 : decode cX10_gives 37 = .ok (.aload_n 0, 1) := by decide +kernel
theorem dX10_gives_38 : decode cX10_gives 38 = .ok (.getfield 415, 3) := by decide +kernel
theorem dX10_gives_41 : decode cX10_gives 41 = .ok (.iconst 1, 1) := by decide +kernel
theorem dX10_gives_42 : decode cX10_gives 42 = .ok (.isub, 1) := by decide +kernel
theorem dX10_gives_43 : decode cX10_gives 43 = .ok (.iaload, 1) := by decide +kernel
theorem dX10_gives_44 : decode cX10_gives 44 = .ok (.istore_n 2, 1) := by decide +kernel
theorem dX10_gives_45 : decode cX10_gives 45 = .ok (.aload_n 0, 1) := by decide +kernel
theorem dX10_gives_46 : decode cX10_gives 46 = .ok (.getfield 138, 3) := by decide +kernel
theorem dX10_gives_49 : decode cX10_gives 49 = .ok (.aload_n 0, 1) := by decide +kernel
theorem dX10_gives_50 : decode cX10_gives 50 = .ok (.getfield 415, 3) := by decide +kernel
theorem dX10_gives_53 : decode cX10_gives 53 = .ok (.iconst 1, 1) := by decide +kernel
theorem dX10_gives_54 : decode cX10_gives 54 = .ok (.isub, 1) := by decide +kernel
theorem dX10_gives_55 : decode cX10_gives 55 = .ok (.iaload, 1) := by decide +kernel
theorem dX10_gives_56 : decode cX10_gives 56 = .ok (.istore_n 3, 1) := by decide +kernel
theorem dX10_gives_57 : decode cX10_gives 57 = .ok (.aload_n 0, 1) := by decide +kernel
theorem dX10_gives_58 : decode cX10_gives 58 = .ok (.iload_n 1, 1) := by decide +kernel
theorem dX10_gives_59 : decode cX10_gives 59 = .ok (.invokevirtual 510, 3) := by decide +kernel
theorem dX10_gives_62 : decode cX10_gives 62 = .ok (.aload_n 0, 1) := by decide +kernel
theorem dX10_gives_63 : decode cX10_gives 63 = .ok (.getfield 138, 3) := by decide +kernel
theorem dX10_gives_66 : decode cX10_gives 66 = .ok (.aload_n 0, 1) := by decide +kernel
theorem dX10_gives_67 : decode cX10_gives 67 = .ok (.getfield 415, 3) := by decide +kernel
theorem dX10_gives_70 : decode cX10_gives 70 = .ok (.iconst 1, 1) := by decide +kernel
theorem dX10_gives_71 : decode cX10_gives 71 = .ok (.isub, 1) := by decide +kernel
theorem dX10_gives_72 : decode cX10_gives 72 = .ok (.iload_n 3, 1) := by decide +kernel
theorem dX10_gives_73 : decode cX10_gives 73 = .ok (.iconst 2, 1) := by decide +kernel
theorem dX10_gives_74 : decode cX10_gives 74 = .ok (.iadd, 1) := by decide +kernel
theorem dX10_gives_75 : decode cX10_gives 75 = .ok (.iastore, 1) := by decide +kernel
theorem dX10_gives_76 : decode cX10_gives 76 = .ok (.aload_n 0, 1) := by decide +kernel
theorem dX10_gives_77 : decode cX10_gives 77 = .ok (.iload_n 2, 1) := by decide +kernel
theorem dX10_gives_78 : decode cX10_gives 78 = .ok (.iload_n 3, 1) := by decide +kernel
theorem dX10_gives_79 : decode cX10_gives 79 = .ok (.bipush 40, 2) := by decide +kernel
theorem dX10_gives_81 : decode cX10_gives 81 = .ok (.iconst 0, 1) := by decide +kernel
theorem dX10_gives_82 : decode cX10_gives 82 = .ok (.invokevirtual 467, 3) := by decide +kernel
theorem dX10_gives_85 : decode cX10_gives 85 = .ok (.return_, 1) := by decide +kernel
theorem dX10_plain_0 : decode cX10_plain 0 = .ok (.aload_n 0, 1) := by decide +kernel
theorem dX10_plain_1 : decode cX10_plain 1 = .ok (.iload_n 1, 1) := by decide +kernel
theorem dX10_plain_2 : decode cX10_plain 2 = .ok (.iload_n 2, 1) := by decide +kernel
theorem dX10_plain_3 : decode cX10_plain 3 = .ok (.iload_n 3, 1) := by decide +kernel
theorem dX10_plain_4 : decode cX10_plain 4 = .ok (.iconst 0, 1) := by decide +kernel
theorem dX10_plain_5 : decode cX10_plain 5 = .ok (.invokestatic 222, 3) := by decide +kernel
theorem dX10_plain_8 : decode cX10_plain 8 = .ok (.iconst 1, 1) := by decide +kernel
theorem dX10_plain_9 : decode cX10_plain 9 = .ok (.if_icmp .le 7, 3) := by decide +kernel
theorem dX10_plain_12 : decode cX10_plain 12 = .ok (.iconst 1, 1) := by decide +kernel
theorem dX10_plain_13 : decode cX10_plain 13 = .ok (.goto 4, 3) := by decide +kernel
theorem dX10_plain_16 : decode cX10_plain 16 = .ok (.iconst 0, 1) := by decide +kernel
theorem dX10_plain_17 : decode cX10_plain 17 = .ok (.iadd, 1) := by decide +kernel
theorem dX10_plain_18 : decode cX10_plain 18 = .ok (.invokevirtual 448, 3) := by decide +kernel
theorem dX10_plain_21 : decode cX10_plain 21 = .ok (.istore 4, 2) := by decide +kernel
theorem dX10_plain_23 : decode cX10_plain 23 = .ok (.bipush 12, 2) := by decide +kernel
theorem dX10_plain_25 : decode cX10_plain 25 = .ok (.aload_n 0, 1) := by decide +kernel
theorem dX10_plain_26 : decode cX10_plain 26 = .ok (.getfield 415, 3) := by decide +kernel
theorem dX10_plain_29 : decode cX10_plain 29 = .ok (.iconst 1, 1) := by decide +kernel
theorem dX10_plain_30 : decode cX10_plain 30 = .ok (.isub, 1) := by decide +kernel
theorem dX10_plain_31 : decode cX10_plain 31 = .ok (.imul, 1) := by decide +kernel
theorem dX10_plain_32 : decode cX10_plain 32 = .ok (.iload_n 3, 1) := by decide +kernel
theorem dX10_plain_33 : decode cX10_plain 33 = .ok (.iconst 3, 1) := by decide +kernel
theorem dX10_plain_34 : decode cX10_plain 34 = .ok (.iconst 5, 1) := by decide +kernel
theorem dX10_plain_35 : decode cX10_plain 35 = .ok (.invokestatic 217, 3) := by decide +kernel
theorem dX10_plain_38 : decode cX10_plain 38 = .ok (.ifCond .eq 8, 3) := by decide +kernel
theorem dX10_plain_41 : decode cX10_plain 41 = .ok (.iload 4, 2) := by decide +kernel
theorem dX10_plain_43 : decode cX10_plain 43 = .ok (.goto 4, 3) := by decide +kernel
theorem dX10_plain_46 : decode cX10_plain 46 = .ok (.iconst 0, 1) := by decide +kernel
theorem dX10_plain_47 : decode cX10_plain 47 = .ok (.iadd, 1) := by decide +kernel
theorem dX10_plain_48 : decode cX10_plain 48 = .ok (.istore 5, 2) := by decide +kernel
theorem dX10_plain_50 : decode cX10_plain 50 = .ok (.iload_n 3, 1) := by decide +kernel
theorem dX10_plain_51 : decode cX10_plain 51 = .ok (.tableswitch 372 1 43 #[185, 197, 242, 256, 270, 294, 306, 314, 372, 372, 372, 372, 372, 372, 372, 372, 372, 372, 321, 372, 372, 372, 372, 372, 372, 372, 372, 372, 372, 372, 372, 372, 372, 333, 347, 372, 372, 372, 372, 372, 372, 372, 361], 185) := by decide +kernel
theorem dX10_plain_236 : decode cX10_plain 236 = .ok (.aload_n 0, 1) := by decide +kernel
theorem dX10_plain_237 : decode cX10_plain 237 = .ok (.iload 4, 2) := by decide +kernel
theorem dX10_plain_239 : decode cX10_plain 239 = .ok (.invokestatic 229, 3) := by decide +kernel
theorem dX10_plain_242 : decode cX10_plain 242 = .ok (.invokevirtual 510, 3) := by decide +kernel
theorem dX10_plain_245 : decode cX10_plain 245 = .ok (.goto 183, 3) := by decide +kernel
theorem dX10_plain_248 : decode cX10_plain 248 = .ok (.aload_n 0, 1) := by decide +kernel
theorem dX10_plain_249 : decode cX10_plain 249 = .ok (.iload 4, 2) := by decide +kernel
theorem dX10_plain_251 : decode cX10_plain 251 = .ok (.bipush 24, 2) := by decide +kernel
theorem dX10_plain_253 : decode cX10_plain 253 = .ok (.ishl, 1) := by decide +kernel
theorem dX10_plain_254 : decode cX10_plain 254 = .ok (.aload_n 0, 1) := by decide +kernel
theorem dX10_plain_255 : decode cX10_plain 255 = .ok (.iload_n 1, 1) := by decide +kernel
theorem dX10_plain_256 : decode cX10_plain 256 = .ok (.iload_n 2, 1) := by decide +kernel
theorem dX10_plain_257 : decode cX10_plain 257 = .ok (.iconst 2, 1) := by decide +kernel
theorem dX10_plain_258 : decode cX10_plain 258 = .ok (.iadd, 1) := by decide +kernel
theorem dX10_plain_259 : decode cX10_plain 259 = .ok (.invokevirtual 448, 3) := by decide +kernel
theorem dX10_plain_262 : decode cX10_plain 262 = .ok (.bipush 16, 2) := by decide +kernel
theorem dX10_plain_264 : decode cX10_plain 264 = .ok (.ishl, 1) := by decide +kernel
theorem dX10_plain_265 : decode cX10_plain 265 = .ok (.ior, 1) := by decide +kernel
theorem dX10_plain_266 : decode cX10_plain 266 = .ok (.aload_n 0, 1) := by decide +kernel
theorem dX10_plain_267 : decode cX10_plain 267 = .ok (.iload_n 1, 1) := by decide +kernel
theorem dX10_plain_268 : decode cX10_plain 268 = .ok (.iload_n 2, 1) := by decide +kernel
theorem dX10_plain_269 : decode cX10_plain 269 = .ok (.iconst 3, 1) := by decide +kernel
theorem dX10_plain_270 : decode cX10_plain 270 = .ok (.iadd, 1) := by decide +kernel
theorem dX10_plain_271 : decode cX10_plain 271 = .ok (.invokevirtual 448, 3) := by decide +kernel
theorem dX10_plain_274 : decode cX10_plain 274 = .ok (.bipush 8, 2) := by decide +kernel
theorem dX10_plain_276 : decode cX10_plain 276 = .ok (.ishl, 1) := by decide +kernel
theorem dX10_plain_277 : decode cX10_plain 277 = .ok (.ior, 1) := by decide +kernel
theorem dX10_plain_278 : decode cX10_plain 278 = .ok (.aload_n 0, 1) := by decide +kernel
theorem dX10_plain_279 : decode cX10_plain 279 = .ok (.iload_n 1, 1) := by decide +kernel
theorem dX10_plain_280 : decode cX10_plain 280 = .ok (.iload_n 2, 1) := by decide +kernel
theorem dX10_plain_281 : decode cX10_plain 281 = .ok (.iconst 4, 1) := by decide +kernel
theorem dX10_plain_282 : decode cX10_plain 282 = .ok (.iadd, 1) := by decide +kernel
theorem dX10_plain_283 : decode cX10_plain 283 = .ok (.invokevirtual 448, 3) := by decide +kernel
theorem dX10_plain_286 : decode cX10_plain 286 = .ok (.ior, 1) := by decide +kernel
theorem dX10_plain_287 : decode cX10_plain 287 = .ok (.invokevirtual 510, 3) := by decide +kernel
theorem dX10_plain_290 : decode cX10_plain 290 = .ok (.goto 138, 3) := by decide +kernel
theorem dX10_plain_293 : decode cX10_plain 293 = .ok (.aload_n 0, 1) := by decide +kernel
theorem dX10_plain_294 : decode cX10_plain 294 = .ok (.aload_n 0, 1) := by decide +kernel
theorem dX10_plain_295 : decode cX10_plain 295 = .ok (.getfield 144, 3) := by decide +kernel
theorem dX10_plain_298 : decode cX10_plain 298 = .ok (.iload 5, 2) := by decide +kernel
theorem dX10_plain_300 : decode cX10_plain 300 = .ok (.iaload, 1) := by decide +kernel
theorem dX10_plain_301 : decode cX10_plain 301 = .ok (.invokevirtual 510, 3) := by decide +kernel
theorem dX10_plain_304 : decode cX10_plain 304 = .ok (.goto 124, 3) := by decide +kernel
theorem dX10_plain_307 : decode cX10_plain 307 = .ok (.aload_n 0, 1) := by decide +kernel
theorem dX10_plain_308 : decode cX10_plain 308 = .ok (.getfield 144, 3) := by decide +kernel
theorem dX10_plain_311 : decode cX10_plain 311 = .ok (.iload 5, 2) := by decide +kernel
theorem dX10_plain_313 : decode cX10_plain 313 = .ok (.aload_n 0, 1) := by decide +kernel
theorem dX10_plain_314 : decode cX10_plain 314 = .ok (.invokevirtual 498, 3) := by decide +kernel
theorem dX10_plain_317 : decode cX10_plain 317 = .ok (.iastore, 1) := by decide +kernel
theorem dX10_plain_318 : decode cX10_plain 318 = .ok (.goto 110, 3) := by decide +kernel
theorem dX10_plain_321 : decode cX10_plain 321 = .ok (.aload_n 0, 1) := by decide +kernel
theorem dX10_plain_322 : decode cX10_plain 322 = .ok (.getfield 144, 3) := by decide +kernel
theorem dX10_plain_325 : decode cX10_plain 325 = .ok (.iload 5, 2) := by decide +kernel
theorem dX10_plain_327 : decode cX10_plain 327 = .ok (.dup2, 1) := by decide +kernel
theorem dX10_plain_328 : decode cX10_plain 328 = .ok (.iaload, 1) := by decide +kernel
theorem dX10_plain_329 : decode cX10_plain 329 = .ok (.aload_n 0, 1) := by decide +kernel
theorem dX10_plain_330 : decode cX10_plain 330 = .ok (.iload_n 1, 1) := by decide +kernel
theorem dX10_plain_331 : decode cX10_plain 331 = .ok (.iload_n 2, 1) := by decide +kernel
theorem dX10_plain_332 : decode cX10_plain 332 = .ok (.iconst 2, 1) := by decide +kernel
theorem dX10_plain_333 : decode cX10_plain 333 = .ok (.iadd, 1) := by decide +kernel
theorem dX10_plain_334 : decode cX10_plain 334 = .ok (.invokevirtual 448, 3) := by decide +kernel
theorem dX10_plain_337 : decode cX10_plain 337 = .ok (.invokestatic 229, 3) := by decide +kernel
theorem dX10_plain_340 : decode cX10_plain 340 = .ok (.iadd, 1) := by decide +kernel
theorem dX10_plain_341 : decode cX10_plain 341 = .ok (.iastore, 1) := by decide +kernel
theorem dX10_plain_342 : decode cX10_plain 342 = .ok (.goto 86, 3) := by decide +kernel
theorem dX10_plain_345 : decode cX10_plain 345 = .ok (.aload_n 0, 1) := by decide +kernel
theorem dX10_plain_346 : decode cX10_plain 346 = .ok (.aload_n 0, 1) := by decide +kernel
theorem dX10_plain_347 : decode cX10_plain 347 = .ok (.iconst 0, 1) := by decide +kernel
theorem dX10_plain_348 : decode cX10_plain 348 = .ok (.invokevirtual 474, 3) := by decide +kernel
theorem dX10_plain_351 : decode cX10_plain 351 = .ok (.invokevirtual 510, 3) := by decide +kernel
theorem dX10_plain_354 : decode cX10_plain 354 = .ok (.goto 74, 3) := by decide +kernel
theorem dX10_plain_357 : decode cX10_plain 357 = .ok (.aload_n 0, 1) := by decide +kernel
theorem dX10_plain_358 : decode cX10_plain 358 = .ok (.invokevirtual 498, 3) := by decide +kernel
theorem dX10_plain_361 : decode cX10_plain 361 = .ok (.pop, 1) := by decide +kernel
theorem dX10_plain_362 : decode cX10_plain 362 = .ok (.goto 66, 3) := by decide +kernel
theorem dX10_plain_365 : decode cX10_plain 365 = .ok (.aload_n 0, 1) := by decide +kernel
theorem dX10_plain_366 : decode cX10_plain 366 = .ok (.invokevirtual 527, 3) := by decide +kernel
theorem dX10_plain_369 : decode cX10_plain 369 = .ok (.goto 59, 3) := by decide +kernel
theorem dX10_plain_372 : decode cX10_plain 372 = .ok (.aload_n 0, 1) := by decide +kernel
theorem dX10_plain_373 : decode cX10_plain 373 = .ok (.aload_n 0, 1) := by decide +kernel
theorem dX10_plain_374 : decode cX10_plain 374 = .ok (.invokevirtual 498, 3) := by decide +kernel
theorem dX10_plain_377 : decode cX10_plain 377 = .ok (.ineg, 1) := by decide +kernel
theorem dX10_plain_378 : decode cX10_plain 378 = .ok (.invokevirtual 510, 3) := by decide +kernel
theorem dX10_plain_381 : decode cX10_plain 381 = .ok (.goto 47, 3) := by decide +kernel
theorem dX10_plain_384 : decode cX10_plain 384 = .ok (.aload_n 0, 1) := by decide +kernel
theorem dX10_plain_385 : decode cX10_plain 385 = .ok (.aload_n 0, 1) := by decide +kernel
theorem dX10_plain_386 : decode cX10_plain 386 = .ok (.getfield 156, 3) := by decide +kernel
theorem dX10_plain_389 : decode cX10_plain 389 = .ok (.iload 4, 2) := by decide +kernel
theorem dX10_plain_391 : decode cX10_plain 391 = .ok (.iaload, 1) := by decide +kernel
theorem dX10_plain_392 : decode cX10_plain 392 = .ok (.invokevirtual 510, 3) := by decide +kernel
theorem dX10_plain_395 : decode cX10_plain 395 = .ok (.goto 33, 3) := by decide +kernel
theorem dX10_plain_398 : decode cX10_plain 398 = .ok (.aload_n 0, 1) := by decide +kernel
theorem dX10_plain_399 : decode cX10_plain 399 = .ok (.getfield 156, 3) := by decide +kernel
theorem dX10_plain_402 : decode cX10_plain 402 = .ok (.iload 4, 2) := by decide +kernel
theorem dX10_plain_404 : decode cX10_plain 404 = .ok (.aload_n 0, 1) := by decide +kernel
theorem dX10_plain_405 : decode cX10_plain 405 = .ok (.invokevirtual 498, 3) := by decide +kernel
theorem dX10_plain_408 : decode cX10_plain 408 = .ok (.iastore, 1) := by decide +kernel
theorem dX10_plain_409 : decode cX10_plain 409 = .ok (.goto 19, 3) := by decide +kernel
theorem dX10_plain_412 : decode cX10_plain 412 = .ok (.aload_n 0, 1) := by decide +kernel
theorem dX10_plain_413 : decode cX10_plain 413 = .ok (.aload_n 0, 1) := by decide +kernel
theorem dX10_plain_414 : decode cX10_plain 414 = .ok (.invokevirtual 498, 3) := by decide +kernel
theorem dX10_plain_417 : decode cX10_plain 417 = .ok (.invokevirtual 530, 3) := by decide +kernel
theorem dX10_plain_420 : decode cX10_plain 420 = .ok (.goto 8, 3) := by decide +kernel
theorem dX10_plain_423 : decode cX10_plain 423 = .ok (.aload_n 0, 1) := by decide +kernel
theorem dX10_plain_424 : decode cX10_plain 424 = .ok (.iload_n 3, 1) := by decide +kernel
theorem dX10_plain_425 : decode cX10_plain 425 = .ok (.invokevirtual 533, 3) := by decide +kernel
theorem dX10_plain_428 : decode cX10_plain 428 = .ok (.return_, 1) := by decide +kernel
theorem dX10_swap_0 : decode cX10_swap 0 = .ok (.aload_n 0, 1) := by decide +kernel
theorem dX10_swap_1 : decode cX10_swap 1 = .ok (.invokevirtual 498, 3) := by decide +kernel
theorem dX10_swap_4 : decode cX10_swap 4 = .ok (.istore_n 1, 1) := by decide +kernel
theorem dX10_swap_5 : decode cX10_swap 5 = .ok (.aload_n 0, 1) := by decide +kernel
theorem dX10_swap_6 : decode cX10_swap 6 = .ok (.invokevirtual 498, 3) := by decide +kernel
theorem dX10_swap_9 : decode cX10_swap 9 = .ok (.istore_n 2, 1) := by decide +kernel
theorem dX10_swap_10 : decode cX10_swap 10 = .ok (.aload_n 0, 1) := by decide +kernel
theorem dX10_swap_11 : decode cX10_swap 11 = .ok (.iload_n 1, 1) := by decide +kernel
theorem dX10_swap_12 : decode cX10_swap 12 = .ok (.invokevirtual 510, 3) := by decide +kernel
theorem dX10_swap_15 : decode cX10_swap 15 = .ok (.aload_n 0, 1) := by decide +kernel
theorem dX10_swap_16 : decode cX10_swap 16 = .ok (.iload_n 2, 1) := by decide +kernel
theorem dX10_swap_17 : decode cX10_swap 17 = .ok (.invokevirtual 510, 3) := by decide +kernel
theorem dX10_swap_20 : decode cX10_swap 20 = .ok (.return_, 1) := by decide +kernel
theorem dX10_marks_0 : decode cX10_marks 0 = .ok (.aload_n 0, 1) := by decide +kernel
theorem dX10_marks_1 : decode cX10_marks 1 = .ok (.getfield 180, 3) := by decide +kernel
theorem dX10_marks_4 : decode cX10_marks 4 = .ok (.aload_n 0, 1) := by decide +kernel
theorem dX10_marks_5 : decode cX10_marks 5 = .ok (.getfield 385, 3) := by decide +kernel
theorem dX10_marks_8 : decode cX10_marks 8 = .ok (.iaload, 1) := by decide +kernel
theorem dX10_marks_9 : decode cX10_marks 9 = .ok (.bipush 60, 2) := by decide +kernel
theorem dX10_marks_11 : decode cX10_marks 11 = .ok (.if_icmp .ge 39, 3) := by decide +kernel
theorem dX10_marks_14 : decode cX10_marks 14 = .ok (.aload_n 0, 1) := by decide +kernel
theorem dX10_marks_15 : decode cX10_marks 15 = .ok (.getfield 198, 3) := by decide +kernel
theorem dX10_marks_18 : decode cX10_marks 18 = .ok (.bipush 60, 2) := by decide +kernel
theorem dX10_marks_20 : decode cX10_marks 20 = .ok (.aload_n 0, 1) := by decide +kernel
theorem dX10_marks_21 : decode cX10_marks 21 = .ok (.getfield 385, 3) := by decide +kernel
theorem dX10_marks_24 : decode cX10_marks 24 = .ok (.imul, 1) := by decide +kernel
theorem dX10_marks_25 : decode cX10_marks 25 = .ok (.aload_n 0, 1) := by decide +kernel
theorem dX10_marks_26 : decode cX10_marks 26 = .ok (.getfield 180, 3) := by decide +kernel
theorem dX10_marks_29 : decode cX10_marks 29 = .ok (.aload_n 0, 1) := by decide +kernel
theorem dX10_marks_30 : decode cX10_marks 30 = .ok (.getfield 385, 3) := by decide +kernel
theorem dX10_marks_33 : decode cX10_marks 33 = .ok (.iaload, 1) := by decide +kernel
theorem dX10_marks_34 : decode cX10_marks 34 = .ok (.iadd, 1) := by decide +kernel
theorem dX10_marks_35 : decode cX10_marks 35 = .ok (.iload_n 1, 1) := by decide +kernel
theorem dX10_marks_36 : decode cX10_marks 36 = .ok (.iastore, 1) := by decide +kernel
theorem dX10_marks_37 : decode cX10_marks 37 = .ok (.aload_n 0, 1) := by decide +kernel
theorem dX10_marks_38 : decode cX10_marks 38 = .ok (.getfield 180, 3) := by decide +kernel
theorem dX10_marks_41 : decode cX10_marks 41 = .ok (.aload_n 0, 1) := by decide +kernel
theorem dX10_marks_42 : decode cX10_marks 42 = .ok (.getfield 385, 3) := by decide +kernel
theorem dX10_marks_45 : decode cX10_marks 45 = .ok (.dup2, 1) := by decide +kernel
theorem dX10_marks_46 : decode cX10_marks 46 = .ok (.iaload, 1) := by decide +kernel
theorem dX10_marks_47 : decode cX10_marks 47 = .ok (.iconst 1, 1) := by decide +kernel
theorem dX10_marks_48 : decode cX10_marks 48 = .ok (.iadd, 1) := by decide +kernel
theorem dX10_marks_49 : decode cX10_marks 49 = .ok (.iastore, 1) := by decide +kernel
theorem dX10_marks_50 : decode cX10_marks 50 = .ok (.return_, 1) := by decide +kernel
theorem dX10_other_0 : decode cX10_other 0 = .ok (.iload_n 1, 1) := by decide +kernel
theorem dX10_other_1 : decode cX10_other 1 = .ok (.bipush 9, 2) := by decide +kernel
theorem dX10_other_3 : decode cX10_other 3 = .ok (.bipush 18, 2) := by decide +kernel
theorem dX10_other_5 : decode cX10_other 5 = .ok (.invokestatic 217, 3) := by decide +kernel
theorem dX10_other_8 : decode cX10_other 8 = .ok (.ifCond .eq 11, 3) := by decide +kernel
theorem dX10_other_11 : decode cX10_other 11 = .ok (.aload_n 0, 1) := by decide +kernel
theorem dX10_other_12 : decode cX10_other 12 = .ok (.iload_n 1, 1) := by decide +kernel
theorem dX10_other_13 : decode cX10_other 13 = .ok (.invokevirtual 536, 3) := by decide +kernel
theorem dX10_other_16 : decode cX10_other 16 = .ok (.goto 204, 3) := by decide +kernel
theorem dX10_other_19 : decode cX10_other 19 = .ok (.iload_n 1, 1) := by decide +kernel
theorem dX10_other_20 : decode cX10_other 20 = .ok (.bipush 36, 2) := by decide +kernel
theorem dX10_other_22 : decode cX10_other 22 = .ok (.if_icmp .ne 10, 3) := by decide +kernel
theorem dX10_other_25 : decode cX10_other 25 = .ok (.aload_n 0, 1) := by decide +kernel
theorem dX10_other_26 : decode cX10_other 26 = .ok (.invokevirtual 539, 3) := by decide +kernel
theorem dX10_other_29 : decode cX10_other 29 = .ok (.goto 191, 3) := by decide +kernel
theorem dX10_other_32 : decode cX10_other 32 = .ok (.iload_n 1, 1) := by decide +kernel
theorem dX10_other_33 : decode cX10_other 33 = .ok (.bipush 37, 2) := by decide +kernel
theorem dX10_other_35 : decode cX10_other 35 = .ok (.if_icmp .ne 19, 3) := by decide +kernel
theorem dX10_other_38 : decode cX10_other 38 = .ok (.aload_n 0, 1) := by decide +kernel
theorem dX10_other_39 : decode cX10_other 39 = .ok (.aload_n 0, 1) := by decide +kernel
theorem dX10_other_40 : decode cX10_other 40 = .ok (.getfield 150, 3) := by decide +kernel
theorem dX10_other_43 : decode cX10_other 43 = .ok (.aload_n 0, 1) := by decide +kernel
theorem dX10_other_44 : decode cX10_other 44 = .ok (.invokevirtual 498, 3) := by decide +kernel
theorem dX10_other_47 : decode cX10_other 47 = .ok (.iaload, 1) := by decide +kernel
theorem dX10_other_48 : decode cX10_other 48 = .ok (.invokevirtual 510, 3) := by decide +kernel
theorem dX10_other_51 : decode cX10_other 51 = .ok (.goto 169, 3) := by decide +kernel
theorem dX10_other_54 : decode cX10_other 54 = .ok (.iload_n 1, 1) := by decide +kernel
theorem dX10_other_55 : decode cX10_other 55 = .ok (.bipush 38, 2) := by decide +kernel
theorem dX10_other_57 : decode cX10_other 57 = .ok (.if_icmp .ne 62, 3) := by decide +kernel
theorem dX10_other_60 : decode cX10_other 60 = .ok (.aload_n 0, 1) := by decide +kernel
theorem dX10_other_61 : decode cX10_other 61 = .ok (.iconst 0, 1) := by decide +kernel
theorem dX10_other_62 : decode cX10_other 62 = .ok (.invokevirtual 474, 3) := by decide +kernel
theorem dX10_other_65 : decode cX10_other 65 = .ok (.iconst 0, 1) := by decide +kernel
theorem dX10_other_66 : decode cX10_other 66 = .ok (.aload_n 0, 1) := by decide +kernel
theorem dX10_other_67 : decode cX10_other 67 = .ok (.getfield 150, 3) := by decide +kernel
theorem dX10_other_70 : decode cX10_other 70 = .ok (.aload_n 0, 1) := by decide +kernel
theorem dX10_other_71 : decode cX10_other 71 = .ok (.iconst 1, 1) := by decide +kernel
theorem dX10_other_72 : decode cX10_other 72 = .ok (.invokevirtual 474, 3) := by decide +kernel
theorem dX10_other_75 : decode cX10_other 75 = .ok (.iaload, 1) := by decide +kernel
theorem dX10_other_76 : decode cX10_other 76 = .ok (.iconst 1, 1) := by decide +kernel
theorem dX10_other_77 : decode cX10_other 77 = .ok (.isub, 1) := by decide +kernel
theorem dX10_other_78 : decode cX10_other 78 = .ok (.invokestatic 217, 3) := by decide +kernel
theorem dX10_other_81 : decode cX10_other 81 = .ok (.ifCond .eq 29, 3) := by decide +kernel
theorem dX10_other_84 : decode cX10_other 84 = .ok (.aload_n 0, 1) := by decide +kernel
theorem dX10_other_85 : decode cX10_other 85 = .ok (.invokevirtual 498, 3) := by decide +kernel
theorem dX10_other_88 : decode cX10_other 88 = .ok (.istore_n 2, 1) := by decide +kernel
theorem dX10_other_89 : decode cX10_other 89 = .ok (.aload_n 0, 1) := by decide +kernel
theorem dX10_other_90 : decode cX10_other 90 = .ok (.aload_n 0, 1) := by decide +kernel
theorem dX10_other_91 : decode cX10_other 91 = .ok (.getfield 153, 3) := by decide +kernel
theorem dX10_other_94 : decode cX10_other 94 = .ok (.bipush 50, 2) := by decide +kernel
theorem dX10_other_96 : decode cX10_other 96 = .ok (.aload_n 0, 1) := by decide +kernel
theorem dX10_other_97 : decode cX10_other 97 = .ok (.invokevirtual 498, 3) := by decide +kernel
theorem dX10_other_100 : decode cX10_other 100 = .ok (.imul, 1) := by decide +kernel
theorem dX10_other_101 : decode cX10_other 101 = .ok (.iload_n 2, 1) := by decide +kernel
theorem dX10_other_102 : decode cX10_other 102 = .ok (.iadd, 1) := by decide +kernel
theorem dX10_other_103 : decode cX10_other 103 = .ok (.iaload, 1) := by decide +kernel
theorem dX10_other_104 : decode cX10_other 104 = .ok (.invokevirtual 510, 3) := by decide +kernel
theorem dX10_other_107 : decode cX10_other 107 = .ok (.goto 113, 3) := by decide +kernel
theorem dX10_other_110 : decode cX10_other 110 = .ok (.aload_n 0, 1) := by decide +kernel
theorem dX10_other_111 : decode cX10_other 111 = .ok (.bipush 102, 2) := by decide +kernel
theorem dX10_other_113 : decode cX10_other 113 = .ok (.putfield 424, 3) := by decide +kernel
theorem dX10_other_116 : decode cX10_other 116 = .ok (.goto 104, 3) := by decide +kernel
theorem dX10_other_119 : decode cX10_other 119 = .ok (.iload_n 1, 1) := by decide +kernel
theorem dX10_other_120 : decode cX10_other 120 = .ok (.bipush 39, 2) := by decide +kernel
theorem dX10_other_122 : decode cX10_other 122 = .ok (.if_icmp .ne 64, 3) := by decide +kernel
theorem dX10_other_125 : decode cX10_other 125 = .ok (.aload_n 0, 1) := by decide +kernel
theorem dX10_other_126 : decode cX10_other 126 = .ok (.iconst 1, 1) := by decide +kernel
theorem dX10_other_127 : decode cX10_other 127 = .ok (.invokevirtual 474, 3) := by decide +kernel
theorem dX10_other_130 : decode cX10_other 130 = .ok (.iconst 0, 1) := by decide +kernel
theorem dX10_other_131 : decode cX10_other 131 = .ok (.aload_n 0, 1) := by decide +kernel
theorem dX10_other_132 : decode cX10_other 132 = .ok (.getfield 150, 3) := by decide +kernel
theorem dX10_other_135 : decode cX10_other 135 = .ok (.aload_n 0, 1) := by decide +kernel
theorem dX10_other_136 : decode cX10_other 136 = .ok (.iconst 2, 1) := by decide +kernel
theorem dX10_other_137 : decode cX10_other 137 = .ok (.invokevirtual 474, 3) := by decide +kernel
theorem dX10_other_140 : decode cX10_other 140 = .ok (.iaload, 1) := by decide +kernel
theorem dX10_other_141 : decode cX10_other 141 = .ok (.iconst 1, 1) := by decide +kernel
theorem dX10_other_142 : decode cX10_other 142 = .ok (.isub, 1) := by decide +kernel
theorem dX10_other_143 : decode cX10_other 143 = .ok (.invokestatic 217, 3) := by decide +kernel
theorem dX10_other_146 : decode cX10_other 146 = .ok (.ifCond .eq 31, 3) := by decide +kernel
theorem dX10_other_149 : decode cX10_other 149 = .ok (.aload_n 0, 1) := by decide +kernel
theorem dX10_other_150 : decode cX10_other 150 = .ok (.invokevirtual 498, 3) := by decide +kernel
theorem dX10_other_153 : decode cX10_other 153 = .ok (.istore_n 2, 1) := by decide +kernel
theorem dX10_other_154 : decode cX10_other 154 = .ok (.aload_n 0, 1) := by decide +kernel
theorem dX10_other_155 : decode cX10_other 155 = .ok (.invokevirtual 498, 3) := by decide +kernel
theorem dX10_other_158 : decode cX10_other 158 = .ok (.istore_n 3, 1) := by decide +kernel
theorem dX10_other_159 : decode cX10_other 159 = .ok (.aload_n 0, 1) := by decide +kernel
theorem dX10_other_160 : decode cX10_other 160 = .ok (.getfield 153, 3) := by decide +kernel
theorem dX10_other_163 : decode cX10_other 163 = .ok (.bipush 50, 2) := by decide +kernel
theorem dX10_other_165 : decode cX10_other 165 = .ok (.aload_n 0, 1) := by decide +kernel
theorem dX10_other_166 : decode cX10_other 166 = .ok (.invokevirtual 498, 3) := by decide +kernel
theorem dX10_other_169 : decode cX10_other 169 = .ok (.imul, 1) := by decide +kernel
theorem dX10_other_170 : decode cX10_other 170 = .ok (.iload_n 3, 1) := by decide +kernel
theorem dX10_other_171 : decode cX10_other 171 = .ok (.iadd, 1) := by decide +kernel
theorem dX10_other_172 : decode cX10_other 172 = .ok (.iload_n 2, 1) := by decide +kernel
theorem dX10_other_173 : decode cX10_other 173 = .ok (.iastore, 1) := by decide +kernel
theorem dX10_other_174 : decode cX10_other 174 = .ok (.goto 46, 3) := by decide +kernel
theorem dX10_other_177 : decode cX10_other 177 = .ok (.aload_n 0, 1) := by decide +kernel
theorem dX10_other_178 : decode cX10_other 178 = .ok (.bipush 102, 2) := by decide +kernel
theorem dX10_other_180 : decode cX10_other 180 = .ok (.putfield 424, 3) := by decide +kernel
theorem dX10_other_183 : decode cX10_other 183 = .ok (.goto 37, 3) := by decide +kernel
theorem dX10_other_186 : decode cX10_other 186 = .ok (.iload_n 1, 1) := by decide +kernel
theorem dX10_other_187 : decode cX10_other 187 = .ok (.bipush 41, 2) := by decide +kernel
theorem dX10_other_189 : decode cX10_other 189 = .ok (.if_icmp .ne 31, 3) := by decide +kernel
theorem dX10_other_192 : decode cX10_other 192 = .ok (.aload_n 0, 1) := by decide +kernel
theorem dX10_other_193 : decode cX10_other 193 = .ok (.aload_n 0, 1) := by decide +kernel
theorem dX10_other_194 : decode cX10_other 194 = .ok (.iconst 0, 1) := by decide +kernel
theorem dX10_other_195 : decode cX10_other 195 = .ok (.invokevirtual 474, 3) := by decide +kernel
theorem dX10_other_198 : decode cX10_other 198 = .ok (.iconst 1, 1) := by decide +kernel
theorem dX10_other_199 : decode cX10_other 199 = .ok (.bipush 99, 2) := by decide +kernel
theorem dX10_other_201 : decode cX10_other 201 = .ok (.invokestatic 217, 3) := by decide +kernel
theorem dX10_other_204 : decode cX10_other 204 = .ok (.ifCond .eq 11, 3) := by decide +kernel
theorem dX10_other_207 : decode cX10_other 207 = .ok (.aload_n 0, 1) := by decide +kernel
theorem dX10_other_208 : decode cX10_other 208 = .ok (.iconst 0, 1) := by decide +kernel
theorem dX10_other_209 : decode cX10_other 209 = .ok (.invokevirtual 474, 3) := by decide +kernel
theorem dX10_other_212 : decode cX10_other 212 = .ok (.goto 5, 3) := by decide +kernel
theorem dX10_other_215 : decode cX10_other 215 = .ok (.bipush 100, 2) := by decide +kernel
theorem dX10_other_217 : decode cX10_other 217 = .ok (.putfield 424, 3) := by decide +kernel
theorem dX10_other_220 : decode cX10_other 220 = .ok (.return_, 1) := by decide +kernel
theorem dX10_newRow_0 : decode cX10_newRow 0 = .ok (.aload_n 0, 1) := by decide +kernel
theorem dX10_newRow_1 : decode cX10_newRow 1 = .ok (.iconst 0, 1) := by decide +kernel
theorem dX10_newRow_2 : decode cX10_newRow 2 = .ok (.invokevirtual 474, 3) := by decide +kernel
theorem dX10_newRow_5 : decode cX10_newRow 5 = .ok (.istore_n 1, 1) := by decide +kernel
theorem dX10_newRow_6 : decode cX10_newRow 6 = .ok (.aload_n 0, 1) := by decide +kernel
theorem dX10_newRow_7 : decode cX10_newRow 7 = .ok (.iload_n 1, 1) := by decide +kernel
theorem dX10_newRow_8 : decode cX10_newRow 8 = .ok (.iconst 0, 1) := by decide +kernel
theorem dX10_newRow_9 : decode cX10_newRow 9 = .ok (.bipush 50, 2) := by decide +kernel
theorem dX10_newRow_11 : decode cX10_newRow 11 = .ok (.invokestatic 217, 3) := by decide +kernel
theorem dX10_newRow_14 : decode cX10_newRow 14 = .ok (.ifCond .ne 8, 3) := by decide +kernel
theorem dX10_newRow_17 : decode cX10_newRow 17 = .ok (.bipush 103, 2) := by decide +kernel
theorem dX10_newRow_19 : decode cX10_newRow 19 = .ok (.goto 18, 3) := by decide +kernel
theorem dX10_newRow_22 : decode cX10_newRow 22 = .ok (.aload_n 0, 1) := by decide +kernel
theorem dX10_newRow_23 : decode cX10_newRow 23 = .ok (.getfield 421, 3) := by decide +kernel
theorem dX10_newRow_26 : decode cX10_newRow 26 = .ok (.bipush 30, 2) := by decide +kernel
theorem dX10_newRow_28 : decode cX10_newRow 28 = .ok (.if_icmp .ne 8, 3) := by decide +kernel
theorem dX10_newRow_31 : decode cX10_newRow 31 = .ok (.bipush 104, 2) := by decide +kernel
theorem dX10_newRow_33 : decode cX10_newRow 33 = .ok (.goto 4, 3) := by decide +kernel
theorem dX10_newRow_36 : decode cX10_newRow 36 = .ok (.iconst 0, 1) := by decide +kernel
theorem dX10_newRow_37 : decode cX10_newRow 37 = .ok (.putfield 424, 3) := by decide +kernel
theorem dX10_newRow_40 : decode cX10_newRow 40 = .ok (.aload_n 0, 1) := by decide +kernel
theorem dX10_newRow_41 : decode cX10_newRow 41 = .ok (.getfield 424, 3) := by decide +kernel
theorem dX10_newRow_44 : decode cX10_newRow 44 = .ok (.ifCond .eq 4, 3) := by decide +kernel
theorem dX10_newRow_47 : decode cX10_newRow 47 = .ok (.return_, 1) := by decide +kernel
theorem dX10_newRow_48 : decode cX10_newRow 48 = .ok (.aload_n 0, 1) := by decide +kernel
theorem dX10_newRow_49 : decode cX10_newRow 49 = .ok (.dup, 1) := by decide +kernel
theorem dX10_newRow_50 : decode cX10_newRow 50 = .ok (.getfield 421, 3) := by decide +kernel
theorem dX10_newRow_53 : decode cX10_newRow 53 = .ok (.iconst 1, 1) := by decide +kernel
theorem dX10_newRow_54 : decode cX10_newRow 54 = .ok (.iadd, 1) := by decide +kernel
theorem dX10_newRow_55 : decode cX10_newRow 55 = .ok (.putfield 421, 3) := by decide +kernel
theorem dX10_newRow_58 : decode cX10_newRow 58 = .ok (.aload_n 0, 1) := by decide +kernel
theorem dX10_newRow_59 : decode cX10_newRow 59 = .ok (.getfield 150, 3) := by decide +kernel
theorem dX10_newRow_62 : decode cX10_newRow 62 = .ok (.aload_n 0, 1) := by decide +kernel
theorem dX10_newRow_63 : decode cX10_newRow 63 = .ok (.getfield 421, 3) := by decide +kernel
theorem dX10_newRow_66 : decode cX10_newRow 66 = .ok (.iload_n 1, 1) := by decide +kernel
theorem dX10_newRow_67 : decode cX10_newRow 67 = .ok (.iastore, 1) := by decide +kernel
theorem dX10_newRow_68 : decode cX10_newRow 68 = .ok (.iconst 0, 1) := by decide +kernel
theorem dX10_newRow_69 : decode cX10_newRow 69 = .ok (.istore_n 2, 1) := by decide +kernel
theorem dX10_newRow_70 : decode cX10_newRow 70 = .ok (.iload_n 2, 1) := by decide +kernel
theorem dX10_newRow_71 : decode cX10_newRow 71 = .ok (.iload_n 1, 1) := by decide +kernel
theorem dX10_newRow_72 : decode cX10_newRow 72 = .ok (.if_icmp .ge 24, 3) := by decide +kernel
theorem dX10_newRow_75 : decode cX10_newRow 75 = .ok (.aload_n 0, 1) := by decide +kernel
theorem dX10_newRow_76 : decode cX10_newRow 76 = .ok (.getfield 153, 3) := by decide +kernel
theorem dX10_newRow_79 : decode cX10_newRow 79 = .ok (.bipush 50, 2) := by decide +kernel
theorem dX10_newRow_81 : decode cX10_newRow 81 = .ok (.aload_n 0, 1) := by decide +kernel
theorem dX10_newRow_82 : decode cX10_newRow 82 = .ok (.getfield 421, 3) := by decide +kernel
theorem dX10_newRow_85 : decode cX10_newRow 85 = .ok (.imul, 1) := by decide +kernel
theorem dX10_newRow_86 : decode cX10_newRow 86 = .ok (.iload_n 2, 1) := by decide +kernel
theorem dX10_newRow_87 : decode cX10_newRow 87 = .ok (.iadd, 1) := by decide +kernel
theorem dX10_newRow_88 : decode cX10_newRow 88 = .ok (.iconst 0, 1) := by decide +kernel
theorem dX10_newRow_89 : decode cX10_newRow 89 = .ok (.iastore, 1) := by decide +kernel
theorem dX10_newRow_90 : decode cX10_newRow 90 = .ok (.iinc 2 1, 3) := by decide +kernel
theorem dX10_newRow_93 : decode cX10_newRow 93 = .ok (.goto (-23), 3) := by decide +kernel
theorem dX10_newRow_96 : decode cX10_newRow 96 = .ok (.aload_n 0, 1) := by decide +kernel
theorem dX10_newRow_97 : decode cX10_newRow 97 = .ok (.aload_n 0, 1) := by decide +kernel
theorem dX10_newRow_98 : decode cX10_newRow 98 = .ok (.getfield 421, 3) := by decide +kernel
theorem dX10_newRow_101 : decode cX10_newRow 101 = .ok (.invokevirtual 483, 3) := by decide +kernel
theorem dX10_newRow_104 : decode cX10_newRow 104 = .ok (.return_, 1) := by decide +kernel
theorem dX10_work_0 : decode cX10_work 0 = .ok (.aload_n 0, 1) := by decide +kernel
theorem dX10_work_1 : decode cX10_work 1 = .ok (.iconst 0, 1) := by decide +kernel
theorem dX10_work_2 : decode cX10_work 2 = .ok (.invokevirtual 474, 3) := by decide +kernel
theorem dX10_work_5 : decode cX10_work 5 = .ok (.istore_n 2, 1) := by decide +kernel
theorem dX10_work_6 : decode cX10_work 6 = .ok (.aload_n 0, 1) := by decide +kernel
theorem dX10_work_7 : decode cX10_work 7 = .ok (.iconst 1, 1) := by decide +kernel
theorem dX10_work_8 : decode cX10_work 8 = .ok (.invokevirtual 474, 3) := by decide +kernel
theorem dX10_work_11 : decode cX10_work 11 = .ok (.istore_n 3, 1) := by decide +kernel
theorem dX10_work_12 : decode cX10_work 12 = .ok (.iload_n 1, 1) := by decide +kernel
theorem dX10_work_13 : decode cX10_work 13 = .ok (.bipush 12, 2) := by decide +kernel
theorem dX10_work_15 : decode cX10_work 15 = .ok (.bipush 13, 2) := by decide +kernel
theorem dX10_work_17 : decode cX10_work 17 = .ok (.invokestatic 217, 3) := by decide +kernel
theorem dX10_work_20 : decode cX10_work 20 = .ok (.ifCond .eq 14, 3) := by decide +kernel
theorem dX10_work_23 : decode cX10_work 23 = .ok (.iload_n 2, 1) := by decide +kernel
theorem dX10_work_24 : decode cX10_work 24 = .ok (.ifCond .ne 10, 3) := by decide +kernel
theorem dX10_work_27 : decode cX10_work 27 = .ok (.aload_n 0, 1) := by decide +kernel
theorem dX10_work_28 : decode cX10_work 28 = .ok (.bipush 101, 2) := by decide +kernel
theorem dX10_work_30 : decode cX10_work 30 = .ok (.putfield 424, 3) := by decide +kernel
theorem dX10_work_33 : decode cX10_work 33 = .ok (.return_, 1) := by decide +kernel
theorem dX10_work_34 : decode cX10_work 34 = .ok (.aload_n 0, 1) := by decide +kernel
theorem dX10_work_35 : decode cX10_work 35 = .ok (.invokevirtual 498, 3) := by decide +kernel
theorem dX10_work_38 : decode cX10_work 38 = .ok (.pop, 1) := by decide +kernel
theorem dX10_work_39 : decode cX10_work 39 = .ok (.iload_n 1, 1) := by decide +kernel
theorem dX10_work_40 : decode cX10_work 40 = .ok (.tableswitch 145 9 17 #[52, 62, 72, 82, 92, 102, 112, 122, 132], 52) := by decide +kernel
theorem dX10_work_92 : decode cX10_work 92 = .ok (.aload_n 0, 1) := by decide +kernel
theorem dX10_work_93 : decode cX10_work 93 = .ok (.iload_n 3, 1) := by decide +kernel
theorem dX10_work_94 : decode cX10_work 94 = .ok (.iload_n 2, 1) := by decide +kernel
theorem dX10_work_95 : decode cX10_work 95 = .ok (.iadd, 1) := by decide +kernel
theorem dX10_work_96 : decode cX10_work 96 = .ok (.invokevirtual 483, 3) := by decide +kernel
theorem dX10_work_99 : decode cX10_work 99 = .ok (.goto 96, 3) := by decide +kernel
theorem dX10_work_102 : decode cX10_work 102 = .ok (.aload_n 0, 1) := by decide +kernel
theorem dX10_work_103 : decode cX10_work 103 = .ok (.iload_n 3, 1) := by decide +kernel
theorem dX10_work_104 : decode cX10_work 104 = .ok (.iload_n 2, 1) := by decide +kernel
theorem dX10_work_105 : decode cX10_work 105 = .ok (.isub, 1) := by decide +kernel
theorem dX10_work_106 : decode cX10_work 106 = .ok (.invokevirtual 483, 3) := by decide +kernel
theorem dX10_work_109 : decode cX10_work 109 = .ok (.goto 86, 3) := by decide +kernel
theorem dX10_work_112 : decode cX10_work 112 = .ok (.aload_n 0, 1) := by decide +kernel
theorem dX10_work_113 : decode cX10_work 113 = .ok (.iload_n 3, 1) := by decide +kernel
theorem dX10_work_114 : decode cX10_work 114 = .ok (.iload_n 2, 1) := by decide +kernel
theorem dX10_work_115 : decode cX10_work 115 = .ok (.imul, 1) := by decide +kernel
theorem dX10_work_116 : decode cX10_work 116 = .ok (.invokevirtual 483, 3) := by decide +kernel
theorem dX10_work_119 : decode cX10_work 119 = .ok (.goto 76, 3) := by decide +kernel
theorem dX10_work_122 : decode cX10_work 122 = .ok (.aload_n 0, 1) := by decide +kernel
theorem dX10_work_123 : decode cX10_work 123 = .ok (.iload_n 3, 1) := by decide +kernel
theorem dX10_work_124 : decode cX10_work 124 = .ok (.iload_n 2, 1) := by decide +kernel
theorem dX10_work_125 : decode cX10_work 125 = .ok (.idiv, 1) := by decide +kernel
theorem dX10_work_126 : decode cX10_work 126 = .ok (.invokevirtual 483, 3) := by decide +kernel
theorem dX10_work_129 : decode cX10_work 129 = .ok (.goto 66, 3) := by decide +kernel
theorem dX10_work_132 : decode cX10_work 132 = .ok (.aload_n 0, 1) := by decide +kernel
theorem dX10_work_133 : decode cX10_work 133 = .ok (.iload_n 3, 1) := by decide +kernel
theorem dX10_work_134 : decode cX10_work 134 = .ok (.iload_n 2, 1) := by decide +kernel
theorem dX10_work_135 : decode cX10_work 135 = .ok (.irem, 1) := by decide +kernel
theorem dX10_work_136 : decode cX10_work 136 = .ok (.invokevirtual 483, 3) := by decide +kernel
theorem dX10_work_139 : decode cX10_work 139 = .ok (.goto 56, 3) := by decide +kernel
theorem dX10_work_142 : decode cX10_work 142 = .ok (.aload_n 0, 1) := by decide +kernel
theorem dX10_work_143 : decode cX10_work 143 = .ok (.iload_n 3, 1) := by decide +kernel
theorem dX10_work_144 : decode cX10_work 144 = .ok (.iload_n 2, 1) := by decide +kernel
theorem dX10_work_145 : decode cX10_work 145 = .ok (.iand, 1) := by decide +kernel
theorem dX10_work_146 : decode cX10_work 146 = .ok (.invokevirtual 483, 3) := by decide +kernel
theorem dX10_work_149 : decode cX10_work 149 = .ok (.goto 46, 3) := by decide +kernel
theorem dX10_work_152 : decode cX10_work 152 = .ok (.aload_n 0, 1) := by decide +kernel
theorem dX10_work_153 : decode cX10_work 153 = .ok (.iload_n 3, 1) := by decide +kernel
theorem dX10_work_154 : decode cX10_work 154 = .ok (.iload_n 2, 1) := by decide +kernel
theorem dX10_work_155 : decode cX10_work 155 = .ok (.ior, 1) := by decide +kernel
theorem dX10_work_156 : decode cX10_work 156 = .ok (.invokevirtual 483, 3) := by decide +kernel
theorem dX10_work_159 : decode cX10_work 159 = .ok (.goto 36, 3) := by decide +kernel
theorem dX10_work_162 : decode cX10_work 162 = .ok (.aload_n 0, 1) := by decide +kernel
theorem dX10_work_163 : decode cX10_work 163 = .ok (.iload_n 3, 1) := by decide +kernel
theorem dX10_work_164 : decode cX10_work 164 = .ok (.iload_n 2, 1) := by decide +kernel
theorem dX10_work_165 : decode cX10_work 165 = .ok (.ixor, 1) := by decide +kernel
theorem dX10_work_166 : decode cX10_work 166 = .ok (.invokevirtual 483, 3) := by decide +kernel
theorem dX10_work_169 : decode cX10_work 169 = .ok (.goto 26, 3) := by decide +kernel
theorem dX10_work_172 : decode cX10_work 172 = .ok (.aload_n 0, 1) := by decide +kernel
theorem dX10_work_173 : decode cX10_work 173 = .ok (.iload_n 3, 1) := by decide +kernel
theorem dX10_work_174 : decode cX10_work 174 = .ok (.iload_n 2, 1) := by decide +kernel
theorem dX10_work_175 : decode cX10_work 175 = .ok (.bipush 31, 2) := by decide +kernel
theorem dX10_work_177 : decode cX10_work 177 = .ok (.iand, 1) := by decide +kernel
theorem dX10_work_178 : decode cX10_work 178 = .ok (.ishl, 1) := by decide +kernel
theorem dX10_work_179 : decode cX10_work 179 = .ok (.invokevirtual 483, 3) := by decide +kernel
theorem dX10_work_182 : decode cX10_work 182 = .ok (.goto 13, 3) := by decide +kernel
theorem dX10_work_185 : decode cX10_work 185 = .ok (.aload_n 0, 1) := by decide +kernel
theorem dX10_work_186 : decode cX10_work 186 = .ok (.iload_n 3, 1) := by decide +kernel
theorem dX10_work_187 : decode cX10_work 187 = .ok (.iload_n 2, 1) := by decide +kernel
theorem dX10_work_188 : decode cX10_work 188 = .ok (.bipush 31, 2) := by decide +kernel
theorem dX10_work_190 : decode cX10_work 190 = .ok (.iand, 1) := by decide +kernel
theorem dX10_work_191 : decode cX10_work 191 = .ok (.ishr, 1) := by decide +kernel
theorem dX10_work_192 : decode cX10_work 192 = .ok (.invokevirtual 483, 3) := by decide +kernel
theorem dX10_work_195 : decode cX10_work 195 = .ok (.return_, 1) := by decide +kernel
theorem dX10_isRun_0 : decode cX10_isRun 0 = .ok (.iload_n 1, 1) := by decide +kernel
theorem dX10_isRun_1 : decode cX10_isRun 1 = .ok (.iconst 0, 1) := by decide +kernel
theorem dX10_isRun_2 : decode cX10_isRun 2 = .ok (.iconst 2, 1) := by decide +kernel
theorem dX10_isRun_3 : decode cX10_isRun 3 = .ok (.invokestatic 217, 3) := by decide +kernel
theorem dX10_isRun_6 : decode cX10_isRun 6 = .ok (.ifCond .eq 17, 3) := by decide +kernel
theorem dX10_isRun_9 : decode cX10_isRun 9 = .ok (.aload_n 0, 1) := by decide +kernel
theorem dX10_isRun_10 : decode cX10_isRun 10 = .ok (.getfield 171, 3) := by decide +kernel
theorem dX10_isRun_13 : decode cX10_isRun 13 = .ok (.iload_n 1, 1) := by decide +kernel
theorem dX10_isRun_14 : decode cX10_isRun 14 = .ok (.iaload, 1) := by decide +kernel
theorem dX10_isRun_15 : decode cX10_isRun 15 = .ok (.iconst (-1), 1) := by decide +kernel
theorem dX10_isRun_16 : decode cX10_isRun 16 = .ok (.if_icmp .eq 7, 3) := by decide +kernel
theorem dX10_isRun_19 : decode cX10_isRun 19 = .ok (.iconst 1, 1) := by decide +kernel
theorem dX10_isRun_20 : decode cX10_isRun 20 = .ok (.goto 4, 3) := by decide +kernel
theorem dX10_isRun_23 : decode cX10_isRun 23 = .ok (.iconst 0, 1) := by decide +kernel
theorem dX10_isRun_24 : decode cX10_isRun 24 = .ok (.ireturn, 1) := by decide +kernel
theorem dX10_told_0 : decode cX10_told 0 = .ok (.iload_n 1, 1) := by decide +kernel
theorem dX10_told_1 : decode cX10_told 1 = .ok (.iconst 0, 1) := by decide +kernel
theorem dX10_told_2 : decode cX10_told 2 = .ok (.iconst 2, 1) := by decide +kernel
theorem dX10_told_3 : decode cX10_told 3 = .ok (.invokestatic 217, 3) := by decide +kernel
theorem dX10_told_6 : decode cX10_told 6 = .ok (.ifCond .eq 13, 3) := by decide +kernel
theorem dX10_told_9 : decode cX10_told 9 = .ok (.iload_n 2, 1) := by decide +kernel
theorem dX10_told_10 : decode cX10_told 10 = .ok (.iconst 0, 1) := by decide +kernel
theorem dX10_told_11 : decode cX10_told 11 = .ok (.bipush 8, 2) := by decide +kernel
theorem dX10_told_13 : decode cX10_told 13 = .ok (.invokestatic 217, 3) := by decide +kernel
theorem dX10_told_16 : decode cX10_told 16 = .ok (.ifCond .ne 6, 3) := by decide +kernel
theorem dX10_told_19 : decode cX10_told 19 = .ok (.bipush (-2), 2) := by decide +kernel
theorem dX10_told_21 : decode cX10_told 21 = .ok (.ireturn, 1) := by decide +kernel
theorem dX10_told_22 : decode cX10_told 22 = .ok (.aload_n 0, 1) := by decide +kernel
theorem dX10_told_23 : decode cX10_told 23 = .ok (.getfield 171, 3) := by decide +kernel
theorem dX10_told_26 : decode cX10_told 26 = .ok (.iload_n 1, 1) := by decide +kernel
theorem dX10_told_27 : decode cX10_told 27 = .ok (.iaload, 1) := by decide +kernel
theorem dX10_told_28 : decode cX10_told 28 = .ok (.iconst (-1), 1) := by decide +kernel
theorem dX10_told_29 : decode cX10_told 29 = .ok (.if_icmp .ne 25, 3) := by decide +kernel
theorem dX10_told_32 : decode cX10_told 32 = .ok (.iload_n 2, 1) := by decide +kernel
theorem dX10_told_33 : decode cX10_told 33 = .ok (.ifCond .eq 15, 3) := by decide +kernel
theorem dX10_told_36 : decode cX10_told 36 = .ok (.iload_n 2, 1) := by decide +kernel
theorem dX10_told_37 : decode cX10_told 37 = .ok (.bipush 6, 2) := by decide +kernel
theorem dX10_told_39 : decode cX10_told 39 = .ok (.if_icmp .eq 9, 3) := by decide +kernel
theorem dX10_told_42 : decode cX10_told 42 = .ok (.iload_n 2, 1) := by decide +kernel
theorem dX10_told_43 : decode cX10_told 43 = .ok (.bipush 7, 2) := by decide +kernel
theorem dX10_told_45 : decode cX10_told 45 = .ok (.if_icmp .ne 7, 3) := by decide +kernel
theorem dX10_told_48 : decode cX10_told 48 = .ok (.iconst (-1), 1) := by decide +kernel
theorem dX10_told_49 : decode cX10_told 49 = .ok (.goto 4, 3) := by decide +kernel
theorem dX10_told_52 : decode cX10_told 52 = .ok (.iconst 0, 1) := by decide +kernel
theorem dX10_told_53 : decode cX10_told 53 = .ok (.ireturn, 1) := by decide +kernel
theorem dX10_told_54 : decode cX10_told 54 = .ok (.iload_n 2, 1) := by decide +kernel
theorem dX10_told_55 : decode cX10_told 55 = .ok (.tableswitch 101 0 7 #[45, 52, 59, 66, 73, 80, 87, 94], 45) := by decide +kernel
theorem dX10_told_100 : decode cX10_told 100 = .ok (.aload_n 0, 1) := by decide +kernel
theorem dX10_told_101 : decode cX10_told 101 = .ok (.getfield 171, 3) := by decide +kernel
theorem dX10_told_104 : decode cX10_told 104 = .ok (.iload_n 1, 1) := by decide +kernel
theorem dX10_told_105 : decode cX10_told 105 = .ok (.iaload, 1) := by decide +kernel
theorem dX10_told_106 : decode cX10_told 106 = .ok (.ireturn, 1) := by decide +kernel
theorem dX10_told_107 : decode cX10_told 107 = .ok (.aload_n 0, 1) := by decide +kernel
theorem dX10_told_108 : decode cX10_told 108 = .ok (.getfield 174, 3) := by decide +kernel
theorem dX10_told_111 : decode cX10_told 111 = .ok (.iload_n 1, 1) := by decide +kernel
theorem dX10_told_112 : decode cX10_told 112 = .ok (.iaload, 1) := by decide +kernel
theorem dX10_told_113 : decode cX10_told 113 = .ok (.ireturn, 1) := by decide +kernel
theorem dX10_told_114 : decode cX10_told 114 = .ok (.aload_n 0, 1) := by decide +kernel
theorem dX10_told_115 : decode cX10_told 115 = .ok (.getfield 177, 3) := by decide +kernel
theorem dX10_told_118 : decode cX10_told 118 = .ok (.iload_n 1, 1) := by decide +kernel
theorem dX10_told_119 : decode cX10_told 119 = .ok (.iaload, 1) := by decide +kernel
theorem dX10_told_120 : decode cX10_told 120 = .ok (.ireturn, 1) := by decide +kernel
theorem dX10_told_121 : decode cX10_told 121 = .ok (.aload_n 0, 1) := by decide +kernel
theorem dX10_told_122 : decode cX10_told 122 = .ok (.getfield 180, 3) := by decide +kernel
theorem dX10_told_125 : decode cX10_told 125 = .ok (.iload_n 1, 1) := by decide +kernel
theorem dX10_told_126 : decode cX10_told 126 = .ok (.iaload, 1) := by decide +kernel
theorem dX10_told_127 : decode cX10_told 127 = .ok (.ireturn, 1) := by decide +kernel
theorem dX10_told_128 : decode cX10_told 128 = .ok (.aload_n 0, 1) := by decide +kernel
theorem dX10_told_129 : decode cX10_told 129 = .ok (.getfield 183, 3) := by decide +kernel
theorem dX10_told_132 : decode cX10_told 132 = .ok (.iload_n 1, 1) := by decide +kernel
theorem dX10_told_133 : decode cX10_told 133 = .ok (.iaload, 1) := by decide +kernel
theorem dX10_told_134 : decode cX10_told 134 = .ok (.ireturn, 1) := by decide +kernel
theorem dX10_told_135 : decode cX10_told 135 = .ok (.aload_n 0, 1) := by decide +kernel
theorem dX10_told_136 : decode cX10_told 136 = .ok (.getfield 186, 3) := by decide +kernel
theorem dX10_told_139 : decode cX10_told 139 = .ok (.iload_n 1, 1) := by decide +kernel
theorem dX10_told_140 : decode cX10_told 140 = .ok (.iaload, 1) := by decide +kernel
theorem dX10_told_141 : decode cX10_told 141 = .ok (.ireturn, 1) := by decide +kernel
theorem dX10_told_142 : decode cX10_told 142 = .ok (.aload_n 0, 1) := by decide +kernel
theorem dX10_told_143 : decode cX10_told 143 = .ok (.getfield 189, 3) := by decide +kernel
theorem dX10_told_146 : decode cX10_told 146 = .ok (.iload_n 1, 1) := by decide +kernel
theorem dX10_told_147 : decode cX10_told 147 = .ok (.iaload, 1) := by decide +kernel
theorem dX10_told_148 : decode cX10_told 148 = .ok (.ireturn, 1) := by decide +kernel
theorem dX10_told_149 : decode cX10_told 149 = .ok (.aload_n 0, 1) := by decide +kernel
theorem dX10_told_150 : decode cX10_told 150 = .ok (.getfield 192, 3) := by decide +kernel
theorem dX10_told_153 : decode cX10_told 153 = .ok (.iload_n 1, 1) := by decide +kernel
theorem dX10_told_154 : decode cX10_told 154 = .ok (.iaload, 1) := by decide +kernel
theorem dX10_told_155 : decode cX10_told 155 = .ok (.ireturn, 1) := by decide +kernel
theorem dX10_told_156 : decode cX10_told 156 = .ok (.aload_n 0, 1) := by decide +kernel
theorem dX10_told_157 : decode cX10_told 157 = .ok (.getfield 195, 3) := by decide +kernel
theorem dX10_told_160 : decode cX10_told 160 = .ok (.iload_n 1, 1) := by decide +kernel
theorem dX10_told_161 : decode cX10_told 161 = .ok (.iaload, 1) := by decide +kernel
theorem dX10_told_162 : decode cX10_told 162 = .ok (.ireturn, 1) := by decide +kernel
theorem dX10_mark_0 : decode cX10_mark 0 = .ok (.aload_n 0, 1) := by decide +kernel
theorem dX10_mark_1 : decode cX10_mark 1 = .ok (.iload_n 1, 1) := by decide +kernel
theorem dX10_mark_2 : decode cX10_mark 2 = .ok (.invokevirtual 542, 3) := by decide +kernel
theorem dX10_mark_5 : decode cX10_mark 5 = .ok (.ifCond .eq 33, 3) := by decide +kernel
theorem dX10_mark_8 : decode cX10_mark 8 = .ok (.iload_n 2, 1) := by decide +kernel
theorem dX10_mark_9 : decode cX10_mark 9 = .ok (.iconst 0, 1) := by decide +kernel
theorem dX10_mark_10 : decode cX10_mark 10 = .ok (.aload_n 0, 1) := by decide +kernel
theorem dX10_mark_11 : decode cX10_mark 11 = .ok (.getfield 180, 3) := by decide +kernel
theorem dX10_mark_14 : decode cX10_mark 14 = .ok (.iload_n 1, 1) := by decide +kernel
theorem dX10_mark_15 : decode cX10_mark 15 = .ok (.iaload, 1) := by decide +kernel
theorem dX10_mark_16 : decode cX10_mark 16 = .ok (.iconst 1, 1) := by decide +kernel
theorem dX10_mark_17 : decode cX10_mark 17 = .ok (.isub, 1) := by decide +kernel
theorem dX10_mark_18 : decode cX10_mark 18 = .ok (.invokestatic 217, 3) := by decide +kernel
theorem dX10_mark_21 : decode cX10_mark 21 = .ok (.ifCond .eq 17, 3) := by decide +kernel
theorem dX10_mark_24 : decode cX10_mark 24 = .ok (.aload_n 0, 1) := by decide +kernel
theorem dX10_mark_25 : decode cX10_mark 25 = .ok (.getfield 198, 3) := by decide +kernel
theorem dX10_mark_28 : decode cX10_mark 28 = .ok (.bipush 60, 2) := by decide +kernel
theorem dX10_mark_30 : decode cX10_mark 30 = .ok (.iload_n 1, 1) := by decide +kernel
theorem dX10_mark_31 : decode cX10_mark 31 = .ok (.imul, 1) := by decide +kernel
theorem dX10_mark_32 : decode cX10_mark 32 = .ok (.iload_n 2, 1) := by decide +kernel
theorem dX10_mark_33 : decode cX10_mark 33 = .ok (.iadd, 1) := by decide +kernel
theorem dX10_mark_34 : decode cX10_mark 34 = .ok (.iaload, 1) := by decide +kernel
theorem dX10_mark_35 : decode cX10_mark 35 = .ok (.goto 4, 3) := by decide +kernel
theorem dX10_mark_38 : decode cX10_mark 38 = .ok (.iconst 0, 1) := by decide +kernel
theorem dX10_mark_39 : decode cX10_mark 39 = .ok (.ireturn, 1) := by decide +kernel
theorem dX10_field_0 : decode cX10_field 0 = .ok (.aload_n 0, 1) := by decide +kernel
theorem dX10_field_1 : decode cX10_field 1 = .ok (.iload_n 1, 1) := by decide +kernel
theorem dX10_field_2 : decode cX10_field 2 = .ok (.invokevirtual 542, 3) := by decide +kernel
theorem dX10_field_5 : decode cX10_field 5 = .ok (.ifCond .eq 27, 3) := by decide +kernel
theorem dX10_field_8 : decode cX10_field 8 = .ok (.iload_n 2, 1) := by decide +kernel
theorem dX10_field_9 : decode cX10_field 9 = .ok (.iconst 0, 1) := by decide +kernel
theorem dX10_field_10 : decode cX10_field 10 = .ok (.bipush 7, 2) := by decide +kernel
theorem dX10_field_12 : decode cX10_field 12 = .ok (.invokestatic 217, 3) := by decide +kernel
theorem dX10_field_15 : decode cX10_field 15 = .ok (.ifCond .eq 17, 3) := by decide +kernel
theorem dX10_field_18 : decode cX10_field 18 = .ok (.aload_n 0, 1) := by decide +kernel
theorem dX10_field_19 : decode cX10_field 19 = .ok (.getfield 201, 3) := by decide +kernel
theorem dX10_field_22 : decode cX10_field 22 = .ok (.bipush 8, 2) := by decide +kernel
theorem dX10_field_24 : decode cX10_field 24 = .ok (.iload_n 1, 1) := by decide +kernel
theorem dX10_field_25 : decode cX10_field 25 = .ok (.imul, 1) := by decide +kernel
theorem dX10_field_26 : decode cX10_field 26 = .ok (.iload_n 2, 1) := by decide +kernel
theorem dX10_field_27 : decode cX10_field 27 = .ok (.iadd, 1) := by decide +kernel
theorem dX10_field_28 : decode cX10_field 28 = .ok (.iaload, 1) := by decide +kernel
theorem dX10_field_29 : decode cX10_field 29 = .ok (.goto 4, 3) := by decide +kernel
theorem dX10_field_32 : decode cX10_field 32 = .ok (.iconst 0, 1) := by decide +kernel
theorem dX10_field_33 : decode cX10_field 33 = .ok (.ireturn, 1) := by decide +kernel
theorem dX10_kept_0 : decode cX10_kept 0 = .ok (.aload_n 0, 1) := by decide +kernel
theorem dX10_kept_1 : decode cX10_kept 1 = .ok (.iload_n 1, 1) := by decide +kernel
theorem dX10_kept_2 : decode cX10_kept 2 = .ok (.invokevirtual 542, 3) := by decide +kernel
theorem dX10_kept_5 : decode cX10_kept 5 = .ok (.ifCond .eq 30, 3) := by decide +kernel
theorem dX10_kept_8 : decode cX10_kept 8 = .ok (.aload_n 0, 1) := by decide +kernel
theorem dX10_kept_9 : decode cX10_kept 9 = .ok (.getfield 183, 3) := by decide +kernel
theorem dX10_kept_12 : decode cX10_kept 12 = .ok (.iload_n 1, 1) := by decide +kernel
theorem dX10_kept_13 : decode cX10_kept 13 = .ok (.iaload, 1) := by decide +kernel
theorem dX10_kept_14 : decode cX10_kept 14 = .ok (.sipush 400, 3) := by decide +kernel
theorem dX10_kept_17 : decode cX10_kept 17 = .ok (.if_icmp .ge 12, 3) := by decide +kernel
theorem dX10_kept_20 : decode cX10_kept 20 = .ok (.aload_n 0, 1) := by decide +kernel
theorem dX10_kept_21 : decode cX10_kept 21 = .ok (.getfield 183, 3) := by decide +kernel
theorem dX10_kept_24 : decode cX10_kept 24 = .ok (.iload_n 1, 1) := by decide +kernel
theorem dX10_kept_25 : decode cX10_kept 25 = .ok (.iaload, 1) := by decide +kernel
theorem dX10_kept_26 : decode cX10_kept 26 = .ok (.goto 10, 3) := by decide +kernel
theorem dX10_kept_29 : decode cX10_kept 29 = .ok (.sipush 400, 3) := by decide +kernel
theorem dX10_kept_32 : decode cX10_kept 32 = .ok (.goto 4, 3) := by decide +kernel
theorem dX10_kept_35 : decode cX10_kept 35 = .ok (.iconst 0, 1) := by decide +kernel
theorem dX10_kept_36 : decode cX10_kept 36 = .ok (.ireturn, 1) := by decide +kernel
theorem dX10_record_0 : decode cX10_record 0 = .ok (.iload_n 2, 1) := by decide +kernel
theorem dX10_record_1 : decode cX10_record 1 = .ok (.iconst 0, 1) := by decide +kernel
theorem dX10_record_2 : decode cX10_record 2 = .ok (.aload_n 0, 1) := by decide +kernel
theorem dX10_record_3 : decode cX10_record 3 = .ok (.iload_n 1, 1) := by decide +kernel
theorem dX10_record_4 : decode cX10_record 4 = .ok (.invokevirtual 545, 3) := by decide +kernel
theorem dX10_record_7 : decode cX10_record 7 = .ok (.iconst 1, 1) := by decide +kernel
theorem dX10_record_8 : decode cX10_record 8 = .ok (.isub, 1) := by decide +kernel
theorem dX10_record_9 : decode cX10_record 9 = .ok (.invokestatic 217, 3) := by decide +kernel
theorem dX10_record_12 : decode cX10_record 12 = .ok (.ifCond .eq 12, 3) := by decide +kernel
theorem dX10_record_15 : decode cX10_record 15 = .ok (.iload_n 3, 1) := by decide +kernel
theorem dX10_record_16 : decode cX10_record 16 = .ok (.iconst 0, 1) := by decide +kernel
theorem dX10_record_17 : decode cX10_record 17 = .ok (.iconst 1, 1) := by decide +kernel
theorem dX10_record_18 : decode cX10_record 18 = .ok (.invokestatic 217, 3) := by decide +kernel
theorem dX10_record_21 : decode cX10_record 21 = .ok (.ifCond .ne 5, 3) := by decide +kernel
theorem dX10_record_24 : decode cX10_record 24 = .ok (.iconst 0, 1) := by decide +kernel
theorem dX10_record_25 : decode cX10_record 25 = .ok (.ireturn, 1) := by decide +kernel
theorem dX10_record_26 : decode cX10_record 26 = .ok (.iload_n 3, 1) := by decide +kernel
theorem dX10_record_27 : decode cX10_record 27 = .ok (.ifCond .ne 18, 3) := by decide +kernel
theorem dX10_record_30 : decode cX10_record 30 = .ok (.aload_n 0, 1) := by decide +kernel
theorem dX10_record_31 : decode cX10_record 31 = .ok (.getfield 204, 3) := by decide +kernel
theorem dX10_record_34 : decode cX10_record 34 = .ok (.sipush 400, 3) := by decide +kernel
theorem dX10_record_37 : decode cX10_record 37 = .ok (.iload_n 1, 1) := by decide +kernel
theorem dX10_record_38 : decode cX10_record 38 = .ok (.imul, 1) := by decide +kernel
theorem dX10_record_39 : decode cX10_record 39 = .ok (.iload_n 2, 1) := by decide +kernel
theorem dX10_record_40 : decode cX10_record 40 = .ok (.iadd, 1) := by decide +kernel
theorem dX10_record_41 : decode cX10_record 41 = .ok (.iaload, 1) := by decide +kernel
theorem dX10_record_42 : decode cX10_record 42 = .ok (.goto 15, 3) := by decide +kernel
theorem dX10_record_45 : decode cX10_record 45 = .ok (.aload_n 0, 1) := by decide +kernel
theorem dX10_record_46 : decode cX10_record 46 = .ok (.getfield 207, 3) := by decide +kernel
theorem dX10_record_49 : decode cX10_record 49 = .ok (.sipush 400, 3) := by decide +kernel
theorem dX10_record_52 : decode cX10_record 52 = .ok (.iload_n 1, 1) := by decide +kernel
theorem dX10_record_53 : decode cX10_record 53 = .ok (.imul, 1) := by decide +kernel
theorem dX10_record_54 : decode cX10_record 54 = .ok (.iload_n 2, 1) := by decide +kernel
theorem dX10_record_55 : decode cX10_record 55 = .ok (.iadd, 1) := by decide +kernel
theorem dX10_record_56 : decode cX10_record 56 = .ok (.iaload, 1) := by decide +kernel
theorem dX10_record_57 : decode cX10_record 57 = .ok (.ireturn, 1) := by decide +kernel
theorem dX10_records_0 : decode cX10_records 0 = .ok (.iconst 0, 1) := by decide +kernel
theorem dX10_records_1 : decode cX10_records 1 = .ok (.istore_n 3, 1) := by decide +kernel
theorem dX10_records_2 : decode cX10_records 2 = .ok (.iconst 0, 1) := by decide +kernel
theorem dX10_records_3 : decode cX10_records 3 = .ok (.istore 4, 2) := by decide +kernel
theorem dX10_records_5 : decode cX10_records 5 = .ok (.iload 4, 2) := by decide +kernel
theorem dX10_records_7 : decode cX10_records 7 = .ok (.aload_n 0, 1) := by decide +kernel
theorem dX10_records_8 : decode cX10_records 8 = .ok (.iload_n 1, 1) := by decide +kernel
theorem dX10_records_9 : decode cX10_records 9 = .ok (.invokevirtual 545, 3) := by decide +kernel
theorem dX10_records_12 : decode cX10_records 12 = .ok (.if_icmp .ge 34, 3) := by decide +kernel
theorem dX10_records_15 : decode cX10_records 15 = .ok (.aload_n 0, 1) := by decide +kernel
theorem dX10_records_16 : decode cX10_records 16 = .ok (.getfield 204, 3) := by decide +kernel
theorem dX10_records_19 : decode cX10_records 19 = .ok (.sipush 400, 3) := by decide +kernel
theorem dX10_records_22 : decode cX10_records 22 = .ok (.iload_n 1, 1) := by decide +kernel
theorem dX10_records_23 : decode cX10_records 23 = .ok (.imul, 1) := by decide +kernel
theorem dX10_records_24 : decode cX10_records 24 = .ok (.iload 4, 2) := by decide +kernel
theorem dX10_records_26 : decode cX10_records 26 = .ok (.iadd, 1) := by decide +kernel
theorem dX10_records_27 : decode cX10_records 27 = .ok (.iaload, 1) := by decide +kernel
theorem dX10_records_28 : decode cX10_records 28 = .ok (.iload_n 2, 1) := by decide +kernel
theorem dX10_records_29 : decode cX10_records 29 = .ok (.if_icmp .ne 9, 3) := by decide +kernel
theorem dX10_records_32 : decode cX10_records 32 = .ok (.iload_n 3, 1) := by decide +kernel
theorem dX10_records_33 : decode cX10_records 33 = .ok (.iconst 1, 1) := by decide +kernel
theorem dX10_records_34 : decode cX10_records 34 = .ok (.iadd, 1) := by decide +kernel
theorem dX10_records_35 : decode cX10_records 35 = .ok (.goto 4, 3) := by decide +kernel
theorem dX10_records_38 : decode cX10_records 38 = .ok (.iload_n 3, 1) := by decide +kernel
theorem dX10_records_39 : decode cX10_records 39 = .ok (.istore_n 3, 1) := by decide +kernel
theorem dX10_records_40 : decode cX10_records 40 = .ok (.iinc 4 1, 3) := by decide +kernel
theorem dX10_records_43 : decode cX10_records 43 = .ok (.goto (-38), 3) := by decide +kernel
theorem dX10_records_46 : decode cX10_records 46 = .ok (.iload_n 3, 1) := by decide +kernel
theorem dX10_records_47 : decode cX10_records 47 = .ok (.ireturn, 1) := by decide +kernel
theorem dX10_differ_0 : decode cX10_differ 0 = .ok (.aload_n 0, 1) := by decide +kernel
theorem dX10_differ_1 : decode cX10_differ 1 = .ok (.iconst 1, 1) := by decide +kernel
theorem dX10_differ_2 : decode cX10_differ 2 = .ok (.invokevirtual 545, 3) := by decide +kernel
theorem dX10_differ_5 : decode cX10_differ 5 = .ok (.istore_n 1, 1) := by decide +kernel
theorem dX10_differ_6 : decode cX10_differ 6 = .ok (.aload_n 0, 1) := by decide +kernel
theorem dX10_differ_7 : decode cX10_differ 7 = .ok (.iconst 2, 1) := by decide +kernel
theorem dX10_differ_8 : decode cX10_differ 8 = .ok (.invokevirtual 545, 3) := by decide +kernel
theorem dX10_differ_11 : decode cX10_differ 11 = .ok (.istore_n 2, 1) := by decide +kernel
theorem dX10_differ_12 : decode cX10_differ 12 = .ok (.iconst 0, 1) := by decide +kernel
theorem dX10_differ_13 : decode cX10_differ 13 = .ok (.istore_n 3, 1) := by decide +kernel
theorem dX10_differ_14 : decode cX10_differ 14 = .ok (.iload_n 3, 1) := by decide +kernel
theorem dX10_differ_15 : decode cX10_differ 15 = .ok (.iload_n 1, 1) := by decide +kernel
theorem dX10_differ_16 : decode cX10_differ 16 = .ok (.if_icmp .ge 62, 3) := by decide +kernel
theorem dX10_differ_19 : decode cX10_differ 19 = .ok (.iload_n 3, 1) := by decide +kernel
theorem dX10_differ_20 : decode cX10_differ 20 = .ok (.iload_n 2, 1) := by decide +kernel
theorem dX10_differ_21 : decode cX10_differ 21 = .ok (.if_icmp .ge 57, 3) := by decide +kernel
theorem dX10_differ_24 : decode cX10_differ 24 = .ok (.aload_n 0, 1) := by decide +kernel
theorem dX10_differ_25 : decode cX10_differ 25 = .ok (.getfield 204, 3) := by decide +kernel
theorem dX10_differ_28 : decode cX10_differ 28 = .ok (.sipush 400, 3) := by decide +kernel
theorem dX10_differ_31 : decode cX10_differ 31 = .ok (.iload_n 3, 1) := by decide +kernel
theorem dX10_differ_32 : decode cX10_differ 32 = .ok (.iadd, 1) := by decide +kernel
theorem dX10_differ_33 : decode cX10_differ 33 = .ok (.iaload, 1) := by decide +kernel
theorem dX10_differ_34 : decode cX10_differ 34 = .ok (.aload_n 0, 1) := by decide +kernel
theorem dX10_differ_35 : decode cX10_differ 35 = .ok (.getfield 204, 3) := by decide +kernel
theorem dX10_differ_38 : decode cX10_differ 38 = .ok (.sipush 800, 3) := by decide +kernel
theorem dX10_differ_41 : decode cX10_differ 41 = .ok (.iload_n 3, 1) := by decide +kernel
theorem dX10_differ_42 : decode cX10_differ 42 = .ok (.iadd, 1) := by decide +kernel
theorem dX10_differ_43 : decode cX10_differ 43 = .ok (.iaload, 1) := by decide +kernel
theorem dX10_differ_44 : decode cX10_differ 44 = .ok (.if_icmp .ne 26, 3) := by decide +kernel
theorem dX10_differ_47 : decode cX10_differ 47 = .ok (.aload_n 0, 1) := by decide +kernel
theorem dX10_differ_48 : decode cX10_differ 48 = .ok (.getfield 207, 3) := by decide +kernel
theorem dX10_differ_51 : decode cX10_differ 51 = .ok (.sipush 400, 3) := by decide +kernel
theorem dX10_differ_54 : decode cX10_differ 54 = .ok (.iload_n 3, 1) := by decide +kernel
theorem dX10_differ_55 : decode cX10_differ 55 = .ok (.iadd, 1) := by decide +kernel
theorem dX10_differ_56 : decode cX10_differ 56 = .ok (.iaload, 1) := by decide +kernel
theorem dX10_differ_57 : decode cX10_differ 57 = .ok (.aload_n 0, 1) := by decide +kernel
theorem dX10_differ_58 : decode cX10_differ 58 = .ok (.getfield 207, 3) := by decide +kernel
theorem dX10_differ_61 : decode cX10_differ 61 = .ok (.sipush 800, 3) := by decide +kernel
theorem dX10_differ_64 : decode cX10_differ 64 = .ok (.iload_n 3, 1) := by decide +kernel
theorem dX10_differ_65 : decode cX10_differ 65 = .ok (.iadd, 1) := by decide +kernel
theorem dX10_differ_66 : decode cX10_differ 66 = .ok (.iaload, 1) := by decide +kernel
theorem dX10_differ_67 : decode cX10_differ 67 = .ok (.if_icmp .eq 5, 3) := by decide +kernel
theorem dX10_differ_70 : decode cX10_differ 70 = .ok (.iload_n 3, 1) := by decide +kernel
theorem dX10_differ_71 : decode cX10_differ 71 = .ok (.ireturn, 1) := by decide +kernel
theorem dX10_differ_72 : decode cX10_differ 72 = .ok (.iinc 3 1, 3) := by decide +kernel
theorem dX10_differ_75 : decode cX10_differ 75 = .ok (.goto (-61), 3) := by decide +kernel
theorem dX10_differ_78 : decode cX10_differ 78 = .ok (.iload_n 1, 1) := by decide +kernel
theorem dX10_differ_79 : decode cX10_differ 79 = .ok (.iload_n 2, 1) := by decide +kernel
theorem dX10_differ_80 : decode cX10_differ 80 = .ok (.if_icmp .ne 7, 3) := by decide +kernel
theorem dX10_differ_83 : decode cX10_differ 83 = .ok (.iconst (-1), 1) := by decide +kernel
theorem dX10_differ_84 : decode cX10_differ 84 = .ok (.goto 13, 3) := by decide +kernel
theorem dX10_differ_87 : decode cX10_differ 87 = .ok (.iload_n 1, 1) := by decide +kernel
theorem dX10_differ_88 : decode cX10_differ 88 = .ok (.iload_n 2, 1) := by decide +kernel
theorem dX10_differ_89 : decode cX10_differ 89 = .ok (.if_icmp .ge 7, 3) := by decide +kernel
theorem dX10_differ_92 : decode cX10_differ 92 = .ok (.iload_n 1, 1) := by decide +kernel
theorem dX10_differ_93 : decode cX10_differ 93 = .ok (.goto 4, 3) := by decide +kernel
theorem dX10_differ_96 : decode cX10_differ 96 = .ok (.iload_n 2, 1) := by decide +kernel
theorem dX10_differ_97 : decode cX10_differ 97 = .ok (.ireturn, 1) := by decide +kernel
theorem dX10_count_0 : decode cX10_count 0 = .ok (.iload_n 1, 1) := by decide +kernel
theorem dX10_count_1 : decode cX10_count 1 = .ok (.ifCond .ne 10, 3) := by decide +kernel
theorem dX10_count_4 : decode cX10_count 4 = .ok (.aload_n 0, 1) := by decide +kernel
theorem dX10_count_5 : decode cX10_count 5 = .ok (.getfield 237, 3) := by decide +kernel
theorem dX10_count_8 : decode cX10_count 8 = .ok (.goto 41, 3) := by decide +kernel
theorem dX10_count_11 : decode cX10_count 11 = .ok (.iload_n 1, 1) := by decide +kernel
theorem dX10_count_12 : decode cX10_count 12 = .ok (.iconst 1, 1) := by decide +kernel
theorem dX10_count_13 : decode cX10_count 13 = .ok (.if_icmp .ne 10, 3) := by decide +kernel
theorem dX10_count_16 : decode cX10_count 16 = .ok (.aload_n 0, 1) := by decide +kernel
theorem dX10_count_17 : decode cX10_count 17 = .ok (.getfield 335, 3) := by decide +kernel
theorem dX10_count_20 : decode cX10_count 20 = .ok (.goto 29, 3) := by decide +kernel
theorem dX10_count_23 : decode cX10_count 23 = .ok (.iload_n 1, 1) := by decide +kernel
theorem dX10_count_24 : decode cX10_count 24 = .ok (.iconst 2, 1) := by decide +kernel
theorem dX10_count_25 : decode cX10_count 25 = .ok (.if_icmp .ne 10, 3) := by decide +kernel
theorem dX10_count_28 : decode cX10_count 28 = .ok (.aload_n 0, 1) := by decide +kernel
theorem dX10_count_29 : decode cX10_count 29 = .ok (.getfield 210, 3) := by decide +kernel
theorem dX10_count_32 : decode cX10_count 32 = .ok (.goto 17, 3) := by decide +kernel
theorem dX10_count_35 : decode cX10_count 35 = .ok (.iload_n 1, 1) := by decide +kernel
theorem dX10_count_36 : decode cX10_count 36 = .ok (.iconst 3, 1) := by decide +kernel
theorem dX10_count_37 : decode cX10_count 37 = .ok (.if_icmp .ne 10, 3) := by decide +kernel
theorem dX10_count_40 : decode cX10_count 40 = .ok (.aload_n 0, 1) := by decide +kernel
theorem dX10_count_41 : decode cX10_count 41 = .ok (.getfield 391, 3) := by decide +kernel
theorem dX10_count_44 : decode cX10_count 44 = .ok (.goto 5, 3) := by decide +kernel
theorem dX10_count_47 : decode cX10_count 47 = .ok (.bipush (-2), 2) := by decide +kernel
theorem dX10_count_49 : decode cX10_count 49 = .ok (.ireturn, 1) := by decide +kernel
theorem dJ9_max_7cf53_0 : decode cJ9_max_7cf53 0 = .ok (.iload_n 0, 1) := by decide +kernel
theorem dJ9_max_7cf53_1 : decode cJ9_max_7cf53 1 = .ok (.iload_n 1, 1) := by decide +kernel
theorem dJ9_max_7cf53_2 : decode cJ9_max_7cf53 2 = .ok (.if_icmp .lt 7, 3) := by decide +kernel
theorem dJ9_max_7cf53_5 : decode cJ9_max_7cf53 5 = .ok (.iload_n 0, 1) := by decide +kernel
theorem dJ9_max_7cf53_6 : decode cJ9_max_7cf53 6 = .ok (.goto 4, 3) := by decide +kernel
theorem dJ9_max_7cf53_9 : decode cJ9_max_7cf53 9 = .ok (.iload_n 1, 1) := by decide +kernel
theorem dJ9_max_7cf53_10 : decode cJ9_max_7cf53 10 = .ok (.ireturn, 1) := by decide +kernel
theorem dJ9_min_7cf53_0 : decode cJ9_min_7cf53 0 = .ok (.iload_n 0, 1) := by decide +kernel
theorem dJ9_min_7cf53_1 : decode cJ9_min_7cf53 1 = .ok (.iload_n 1, 1) := by decide +kernel
theorem dJ9_min_7cf53_2 : decode cJ9_min_7cf53 2 = .ok (.if_icmp .gt 7, 3) := by decide +kernel
theorem dJ9_min_7cf53_5 : decode cJ9_min_7cf53 5 = .ok (.iload_n 0, 1) := by decide +kernel
theorem dJ9_min_7cf53_6 : decode cJ9_min_7cf53 6 = .ok (.goto 4, 3) := by decide +kernel
theorem dJ9_min_7cf53_9 : decode cJ9_min_7cf53 9 = .ok (.iload_n 1, 1) := by decide +kernel
theorem dJ9_min_7cf53_10 : decode cJ9_min_7cf53 10 = .ok (.ireturn, 1) := by decide +kernel
theorem dJ7_rangeCheck_23922_0 : decode cJ7_rangeCheck_23922 0 = .ok (.iload_n 1, 1) := by decide +kernel
theorem dJ7_rangeCheck_23922_1 : decode cJ7_rangeCheck_23922 1 = .ok (.iload_n 2, 1) := by decide +kernel
theorem dJ7_rangeCheck_23922_2 : decode cJ7_rangeCheck_23922 2 = .ok (.if_icmp .le 44, 3) := by decide +kernel
theorem dJ7_rangeCheck_23922_5 : decode cJ7_rangeCheck_23922 5 = .ok (.new 43, 3) := by decide +kernel
theorem dJ7_rangeCheck_23922_8 : decode cJ7_rangeCheck_23922 8 = .ok (.dup, 1) := by decide +kernel
theorem dJ7_rangeCheck_23922_9 : decode cJ7_rangeCheck_23922 9 = .ok (.new 45, 3) := by decide +kernel
theorem dJ7_rangeCheck_23922_12 : decode cJ7_rangeCheck_23922 12 = .ok (.dup, 1) := by decide +kernel
theorem dJ7_rangeCheck_23922_13 : decode cJ7_rangeCheck_23922 13 = .ok (.invokespecial 47, 3) := by decide +kernel
theorem dJ7_rangeCheck_23922_16 : decode cJ7_rangeCheck_23922 16 = .ok (.ldc 48, 2) := by decide +kernel
theorem dJ7_rangeCheck_23922_18 : decode cJ7_rangeCheck_23922 18 = .ok (.invokevirtual 50, 3) := by decide +kernel
theorem dJ7_rangeCheck_23922_21 : decode cJ7_rangeCheck_23922 21 = .ok (.iload_n 1, 1) := by decide +kernel
theorem dJ7_rangeCheck_23922_22 : decode cJ7_rangeCheck_23922 22 = .ok (.invokevirtual 54, 3) := by decide +kernel
theorem dJ7_rangeCheck_23922_25 : decode cJ7_rangeCheck_23922 25 = .ok (.ldc 57, 2) := by decide +kernel
theorem dJ7_rangeCheck_23922_27 : decode cJ7_rangeCheck_23922 27 = .ok (.invokevirtual 50, 3) := by decide +kernel
theorem dJ7_rangeCheck_23922_30 : decode cJ7_rangeCheck_23922 30 = .ok (.iload_n 2, 1) := by decide +kernel
theorem dJ7_rangeCheck_23922_31 : decode cJ7_rangeCheck_23922 31 = .ok (.invokevirtual 54, 3) := by decide +kernel
theorem dJ7_rangeCheck_23922_34 : decode cJ7_rangeCheck_23922 34 = .ok (.ldc 59, 2) := by decide +kernel
theorem dJ7_rangeCheck_23922_36 : decode cJ7_rangeCheck_23922 36 = .ok (.invokevirtual 50, 3) := by decide +kernel
theorem dJ7_rangeCheck_23922_39 : decode cJ7_rangeCheck_23922 39 = .ok (.invokevirtual 61, 3) := by decide +kernel
theorem dJ7_rangeCheck_23922_42 : decode cJ7_rangeCheck_23922 42 = .ok (.invokespecial 65, 3) := by decide +kernel
theorem dJ7_rangeCheck_23922_45 : decode cJ7_rangeCheck_23922 45 = .ok (.athrow, 1) := by decide +kernel
theorem dJ7_rangeCheck_23922_46 : decode cJ7_rangeCheck_23922 46 = .ok (.iload_n 1, 1) := by decide +kernel
theorem dJ7_rangeCheck_23922_47 : decode cJ7_rangeCheck_23922 47 = .ok (.ifCond .ge 12, 3) := by decide +kernel
theorem dJ7_rangeCheck_23922_50 : decode cJ7_rangeCheck_23922 50 = .ok (.new 68, 3) := by decide +kernel
theorem dJ7_rangeCheck_23922_53 : decode cJ7_rangeCheck_23922 53 = .ok (.dup, 1) := by decide +kernel
theorem dJ7_rangeCheck_23922_54 : decode cJ7_rangeCheck_23922 54 = .ok (.iload_n 1, 1) := by decide +kernel
theorem dJ7_rangeCheck_23922_55 : decode cJ7_rangeCheck_23922 55 = .ok (.invokespecial 70, 3) := by decide +kernel
theorem dJ7_rangeCheck_23922_58 : decode cJ7_rangeCheck_23922 58 = .ok (.athrow, 1) := by decide +kernel
theorem dJ7_rangeCheck_23922_59 : decode cJ7_rangeCheck_23922 59 = .ok (.iload_n 2, 1) := by decide +kernel
theorem dJ7_rangeCheck_23922_60 : decode cJ7_rangeCheck_23922 60 = .ok (.iload_n 0, 1) := by decide +kernel
theorem dJ7_rangeCheck_23922_61 : decode cJ7_rangeCheck_23922 61 = .ok (.if_icmp .le 12, 3) := by decide +kernel
theorem dJ7_rangeCheck_23922_64 : decode cJ7_rangeCheck_23922 64 = .ok (.new 68, 3) := by decide +kernel
theorem dJ7_rangeCheck_23922_67 : decode cJ7_rangeCheck_23922 67 = .ok (.dup, 1) := by decide +kernel
theorem dJ7_rangeCheck_23922_68 : decode cJ7_rangeCheck_23922 68 = .ok (.iload_n 2, 1) := by decide +kernel
theorem dJ7_rangeCheck_23922_69 : decode cJ7_rangeCheck_23922 69 = .ok (.invokespecial 70, 3) := by decide +kernel
theorem dJ7_rangeCheck_23922_72 : decode cJ7_rangeCheck_23922 72 = .ok (.athrow, 1) := by decide +kernel
theorem dJ7_rangeCheck_23922_73 : decode cJ7_rangeCheck_23922 73 = .ok (.return_, 1) := by decide +kernel
theorem dJ7_fill_53178_0 : decode cJ7_fill_53178 0 = .ok (.iconst 0, 1) := by decide +kernel
theorem dJ7_fill_53178_1 : decode cJ7_fill_53178 1 = .ok (.istore_n 2, 1) := by decide +kernel
theorem dJ7_fill_53178_2 : decode cJ7_fill_53178 2 = .ok (.aload_n 0, 1) := by decide +kernel
theorem dJ7_fill_53178_3 : decode cJ7_fill_53178 3 = .ok (.arraylength, 1) := by decide +kernel
theorem dJ7_fill_53178_4 : decode cJ7_fill_53178 4 = .ok (.istore_n 3, 1) := by decide +kernel
theorem dJ7_fill_53178_5 : decode cJ7_fill_53178 5 = .ok (.iload_n 2, 1) := by decide +kernel
theorem dJ7_fill_53178_6 : decode cJ7_fill_53178 6 = .ok (.iload_n 3, 1) := by decide +kernel
theorem dJ7_fill_53178_7 : decode cJ7_fill_53178 7 = .ok (.if_icmp .ge 13, 3) := by decide +kernel
theorem dJ7_fill_53178_10 : decode cJ7_fill_53178 10 = .ok (.aload_n 0, 1) := by decide +kernel
theorem dJ7_fill_53178_11 : decode cJ7_fill_53178 11 = .ok (.iload_n 2, 1) := by decide +kernel
theorem dJ7_fill_53178_12 : decode cJ7_fill_53178 12 = .ok (.iload_n 1, 1) := by decide +kernel
theorem dJ7_fill_53178_13 : decode cJ7_fill_53178 13 = .ok (.iastore, 1) := by decide +kernel
theorem dJ7_fill_53178_14 : decode cJ7_fill_53178 14 = .ok (.iinc 2 1, 3) := by decide +kernel
theorem dJ7_fill_53178_17 : decode cJ7_fill_53178 17 = .ok (.goto (-12), 3) := by decide +kernel
theorem dJ7_fill_53178_20 : decode cJ7_fill_53178 20 = .ok (.return_, 1) := by decide +kernel
theorem dJ7_fill_fda19_0 : decode cJ7_fill_fda19 0 = .ok (.aload_n 0, 1) := by decide +kernel
theorem dJ7_fill_fda19_1 : decode cJ7_fill_fda19 1 = .ok (.arraylength, 1) := by decide +kernel
theorem dJ7_fill_fda19_2 : decode cJ7_fill_fda19 2 = .ok (.iload_n 1, 1) := by decide +kernel
theorem dJ7_fill_fda19_3 : decode cJ7_fill_fda19 3 = .ok (.iload_n 2, 1) := by decide +kernel
theorem dJ7_fill_fda19_4 : decode cJ7_fill_fda19 4 = .ok (.invokestatic 13, 3) := by decide +kernel
theorem dJ7_fill_fda19_7 : decode cJ7_fill_fda19 7 = .ok (.iload_n 1, 1) := by decide +kernel
theorem dJ7_fill_fda19_8 : decode cJ7_fill_fda19 8 = .ok (.istore 4, 2) := by decide +kernel
theorem dJ7_fill_fda19_10 : decode cJ7_fill_fda19 10 = .ok (.iload 4, 2) := by decide +kernel
theorem dJ7_fill_fda19_12 : decode cJ7_fill_fda19 12 = .ok (.iload_n 2, 1) := by decide +kernel
theorem dJ7_fill_fda19_13 : decode cJ7_fill_fda19 13 = .ok (.if_icmp .ge 14, 3) := by decide +kernel
theorem dJ7_fill_fda19_16 : decode cJ7_fill_fda19 16 = .ok (.aload_n 0, 1) := by decide +kernel
theorem dJ7_fill_fda19_17 : decode cJ7_fill_fda19 17 = .ok (.iload 4, 2) := by decide +kernel
theorem dJ7_fill_fda19_19 : decode cJ7_fill_fda19 19 = .ok (.iload_n 3, 1) := by decide +kernel
theorem dJ7_fill_fda19_20 : decode cJ7_fill_fda19 20 = .ok (.iastore, 1) := by decide +kernel
theorem dJ7_fill_fda19_21 : decode cJ7_fill_fda19 21 = .ok (.iinc 4 1, 3) := by decide +kernel
theorem dJ7_fill_fda19_24 : decode cJ7_fill_fda19 24 = .ok (.goto (-14), 3) := by decide +kernel
theorem dJ7_fill_fda19_27 : decode cJ7_fill_fda19 27 = .ok (.return_, 1) := by decide +kernel
theorem dL_law_0 : decode code 0 = .ok (.new 7, 3) := by decide +kernel
theorem dL_law_3 : decode code 3 = .ok (.dup, 1) := by decide +kernel
theorem dL_law_4 : decode code 4 = .ok (.invokespecial 9, 3) := by decide +kernel
theorem dL_law_7 : decode code 7 = .ok (.astore_n 1, 1) := by decide +kernel
theorem dL_law_8 : decode code 8 = .ok (.new 10, 3) := by decide +kernel
theorem dL_law_11 : decode code 11 = .ok (.dup, 1) := by decide +kernel
theorem dL_law_12 : decode code 12 = .ok (.invokespecial 12, 3) := by decide +kernel
theorem dL_law_15 : decode code 15 = .ok (.astore_n 2, 1) := by decide +kernel
theorem dL_law_16 : decode code 16 = .ok (.iconst 0, 1) := by decide +kernel
theorem dL_law_17 : decode code 17 = .ok (.istore_n 3, 1) := by decide +kernel
theorem dL_law_18 : decode code 18 = .ok (.iload_n 3, 1) := by decide +kernel
theorem dL_law_19 : decode code 19 = .ok (.aload_n 0, 1) := by decide +kernel
theorem dL_law_20 : decode code 20 = .ok (.arraylength, 1) := by decide +kernel
theorem dL_law_21 : decode code 21 = .ok (.bipush 6, 2) := by decide +kernel
theorem dL_law_23 : decode code 23 = .ok (.isub, 1) := by decide +kernel
theorem dL_law_24 : decode code 24 = .ok (.if_icmp .gt 859, 3) := by decide +kernel
theorem dL_law_27 : decode code 27 = .ok (.aload_n 0, 1) := by decide +kernel
theorem dL_law_28 : decode code 28 = .ok (.iload_n 3, 1) := by decide +kernel
theorem dL_law_29 : decode code 29 = .ok (.iaload, 1) := by decide +kernel
theorem dL_law_30 : decode code 30 = .ok (.bipush 31, 2) := by decide +kernel
theorem dL_law_32 : decode code 32 = .ok (.iand, 1) := by decide +kernel
theorem dL_law_33 : decode code 33 = .ok (.tableswitch 844 0 20 #[99, 162, 185, 198, 211, 244, 303, 372, 415, 448, 511, 524, 547, 570, 633, 666, 699, 732, 775, 808, 821], 99) := by decide +kernel
theorem dL_law_132 : decode code 132 = .ok (.aload_n 1, 1) := by decide +kernel
theorem dL_law_133 : decode code 133 = .ok (.aload_n 0, 1) := by decide +kernel
theorem dL_law_134 : decode code 134 = .ok (.iload_n 3, 1) := by decide +kernel
theorem dL_law_135 : decode code 135 = .ok (.iconst 1, 1) := by decide +kernel
theorem dL_law_136 : decode code 136 = .ok (.iadd, 1) := by decide +kernel
theorem dL_law_137 : decode code 137 = .ok (.iaload, 1) := by decide +kernel
theorem dL_law_138 : decode code 138 = .ok (.aload_n 0, 1) := by decide +kernel
theorem dL_law_139 : decode code 139 = .ok (.iload_n 3, 1) := by decide +kernel
theorem dL_law_140 : decode code 140 = .ok (.iconst 2, 1) := by decide +kernel
theorem dL_law_141 : decode code 141 = .ok (.iadd, 1) := by decide +kernel
theorem dL_law_142 : decode code 142 = .ok (.iaload, 1) := by decide +kernel
theorem dL_law_143 : decode code 143 = .ok (.aload_n 0, 1) := by decide +kernel
theorem dL_law_144 : decode code 144 = .ok (.iload_n 3, 1) := by decide +kernel
theorem dL_law_145 : decode code 145 = .ok (.iconst 3, 1) := by decide +kernel
theorem dL_law_146 : decode code 146 = .ok (.iadd, 1) := by decide +kernel
theorem dL_law_147 : decode code 147 = .ok (.iaload, 1) := by decide +kernel
theorem dL_law_148 : decode code 148 = .ok (.aload_n 0, 1) := by decide +kernel
theorem dL_law_149 : decode code 149 = .ok (.iload_n 3, 1) := by decide +kernel
theorem dL_law_150 : decode code 150 = .ok (.iconst 4, 1) := by decide +kernel
theorem dL_law_151 : decode code 151 = .ok (.iadd, 1) := by decide +kernel
theorem dL_law_152 : decode code 152 = .ok (.iaload, 1) := by decide +kernel
theorem dL_law_153 : decode code 153 = .ok (.aload_n 0, 1) := by decide +kernel
theorem dL_law_154 : decode code 154 = .ok (.iload_n 3, 1) := by decide +kernel
theorem dL_law_155 : decode code 155 = .ok (.iconst 5, 1) := by decide +kernel
theorem dL_law_156 : decode code 156 = .ok (.iadd, 1) := by decide +kernel
theorem dL_law_157 : decode code 157 = .ok (.iaload, 1) := by decide +kernel
theorem dL_law_158 : decode code 158 = .ok (.invokevirtual 13, 3) := by decide +kernel
theorem dL_law_161 : decode code 161 = .ok (.aload_n 2, 1) := by decide +kernel
theorem dL_law_162 : decode code 162 = .ok (.aload_n 0, 1) := by decide +kernel
theorem dL_law_163 : decode code 163 = .ok (.iload_n 3, 1) := by decide +kernel
theorem dL_law_164 : decode code 164 = .ok (.iconst 1, 1) := by decide +kernel
theorem dL_law_165 : decode code 165 = .ok (.iadd, 1) := by decide +kernel
theorem dL_law_166 : decode code 166 = .ok (.iaload, 1) := by decide +kernel
theorem dL_law_167 : decode code 167 = .ok (.aload_n 0, 1) := by decide +kernel
theorem dL_law_168 : decode code 168 = .ok (.iload_n 3, 1) := by decide +kernel
theorem dL_law_169 : decode code 169 = .ok (.iconst 2, 1) := by decide +kernel
theorem dL_law_170 : decode code 170 = .ok (.iadd, 1) := by decide +kernel
theorem dL_law_171 : decode code 171 = .ok (.iaload, 1) := by decide +kernel
theorem dL_law_172 : decode code 172 = .ok (.aload_n 0, 1) := by decide +kernel
theorem dL_law_173 : decode code 173 = .ok (.iload_n 3, 1) := by decide +kernel
theorem dL_law_174 : decode code 174 = .ok (.iconst 3, 1) := by decide +kernel
theorem dL_law_175 : decode code 175 = .ok (.iadd, 1) := by decide +kernel
theorem dL_law_176 : decode code 176 = .ok (.iaload, 1) := by decide +kernel
theorem dL_law_177 : decode code 177 = .ok (.aload_n 0, 1) := by decide +kernel
theorem dL_law_178 : decode code 178 = .ok (.iload_n 3, 1) := by decide +kernel
theorem dL_law_179 : decode code 179 = .ok (.iconst 4, 1) := by decide +kernel
theorem dL_law_180 : decode code 180 = .ok (.iadd, 1) := by decide +kernel
theorem dL_law_181 : decode code 181 = .ok (.iaload, 1) := by decide +kernel
theorem dL_law_182 : decode code 182 = .ok (.aload_n 0, 1) := by decide +kernel
theorem dL_law_183 : decode code 183 = .ok (.iload_n 3, 1) := by decide +kernel
theorem dL_law_184 : decode code 184 = .ok (.iconst 5, 1) := by decide +kernel
theorem dL_law_185 : decode code 185 = .ok (.iadd, 1) := by decide +kernel
theorem dL_law_186 : decode code 186 = .ok (.iaload, 1) := by decide +kernel
theorem dL_law_187 : decode code 187 = .ok (.invokevirtual 17, 3) := by decide +kernel
theorem dL_law_190 : decode code 190 = .ok (.if_icmp .eq 687, 3) := by decide +kernel
theorem dL_law_193 : decode code 193 = .ok (.iconst 0, 1) := by decide +kernel
theorem dL_law_194 : decode code 194 = .ok (.ireturn, 1) := by decide +kernel
theorem dL_law_195 : decode code 195 = .ok (.aload_n 1, 1) := by decide +kernel
theorem dL_law_196 : decode code 196 = .ok (.aload_n 0, 1) := by decide +kernel
theorem dL_law_197 : decode code 197 = .ok (.iload_n 3, 1) := by decide +kernel
theorem dL_law_198 : decode code 198 = .ok (.iconst 1, 1) := by decide +kernel
theorem dL_law_199 : decode code 199 = .ok (.iadd, 1) := by decide +kernel
theorem dL_law_200 : decode code 200 = .ok (.iaload, 1) := by decide +kernel
theorem dL_law_201 : decode code 201 = .ok (.invokevirtual 18, 3) := by decide +kernel
theorem dL_law_204 : decode code 204 = .ok (.aload_n 2, 1) := by decide +kernel
theorem dL_law_205 : decode code 205 = .ok (.aload_n 0, 1) := by decide +kernel
theorem dL_law_206 : decode code 206 = .ok (.iload_n 3, 1) := by decide +kernel
theorem dL_law_207 : decode code 207 = .ok (.iconst 1, 1) := by decide +kernel
theorem dL_law_208 : decode code 208 = .ok (.iadd, 1) := by decide +kernel
theorem dL_law_209 : decode code 209 = .ok (.iaload, 1) := by decide +kernel
theorem dL_law_210 : decode code 210 = .ok (.invokevirtual 22, 3) := by decide +kernel
theorem dL_law_213 : decode code 213 = .ok (.if_icmp .eq 664, 3) := by decide +kernel
theorem dL_law_216 : decode code 216 = .ok (.iconst 0, 1) := by decide +kernel
theorem dL_law_217 : decode code 217 = .ok (.ireturn, 1) := by decide +kernel
theorem dL_law_218 : decode code 218 = .ok (.aload_n 1, 1) := by decide +kernel
theorem dL_law_219 : decode code 219 = .ok (.invokevirtual 23, 3) := by decide +kernel
theorem dL_law_222 : decode code 222 = .ok (.aload_n 2, 1) := by decide +kernel
theorem dL_law_223 : decode code 223 = .ok (.invokevirtual 27, 3) := by decide +kernel
theorem dL_law_226 : decode code 226 = .ok (.if_icmp .eq 651, 3) := by decide +kernel
theorem dL_law_229 : decode code 229 = .ok (.iconst 0, 1) := by decide +kernel
theorem dL_law_230 : decode code 230 = .ok (.ireturn, 1) := by decide +kernel
theorem dL_law_231 : decode code 231 = .ok (.aload_n 1, 1) := by decide +kernel
theorem dL_law_232 : decode code 232 = .ok (.invokevirtual 28, 3) := by decide +kernel
theorem dL_law_235 : decode code 235 = .ok (.aload_n 2, 1) := by decide +kernel
theorem dL_law_236 : decode code 236 = .ok (.invokevirtual 31, 3) := by decide +kernel
theorem dL_law_239 : decode code 239 = .ok (.if_icmp .eq 638, 3) := by decide +kernel
theorem dL_law_242 : decode code 242 = .ok (.iconst 0, 1) := by decide +kernel
theorem dL_law_243 : decode code 243 = .ok (.ireturn, 1) := by decide +kernel
theorem dL_law_244 : decode code 244 = .ok (.aload_n 1, 1) := by decide +kernel
theorem dL_law_245 : decode code 245 = .ok (.aload_n 0, 1) := by decide +kernel
theorem dL_law_246 : decode code 246 = .ok (.iload_n 3, 1) := by decide +kernel
theorem dL_law_247 : decode code 247 = .ok (.iconst 1, 1) := by decide +kernel
theorem dL_law_248 : decode code 248 = .ok (.iadd, 1) := by decide +kernel
theorem dL_law_249 : decode code 249 = .ok (.iaload, 1) := by decide +kernel
theorem dL_law_250 : decode code 250 = .ok (.aload_n 0, 1) := by decide +kernel
theorem dL_law_251 : decode code 251 = .ok (.iload_n 3, 1) := by decide +kernel
theorem dL_law_252 : decode code 252 = .ok (.iconst 2, 1) := by decide +kernel
theorem dL_law_253 : decode code 253 = .ok (.iadd, 1) := by decide +kernel
theorem dL_law_254 : decode code 254 = .ok (.iaload, 1) := by decide +kernel
theorem dL_law_255 : decode code 255 = .ok (.invokevirtual 32, 3) := by decide +kernel
theorem dL_law_258 : decode code 258 = .ok (.aload_n 2, 1) := by decide +kernel
theorem dL_law_259 : decode code 259 = .ok (.aload_n 0, 1) := by decide +kernel
theorem dL_law_260 : decode code 260 = .ok (.iload_n 3, 1) := by decide +kernel
theorem dL_law_261 : decode code 261 = .ok (.iconst 1, 1) := by decide +kernel
theorem dL_law_262 : decode code 262 = .ok (.iadd, 1) := by decide +kernel
theorem dL_law_263 : decode code 263 = .ok (.iaload, 1) := by decide +kernel
theorem dL_law_264 : decode code 264 = .ok (.aload_n 0, 1) := by decide +kernel
theorem dL_law_265 : decode code 265 = .ok (.iload_n 3, 1) := by decide +kernel
theorem dL_law_266 : decode code 266 = .ok (.iconst 2, 1) := by decide +kernel
theorem dL_law_267 : decode code 267 = .ok (.iadd, 1) := by decide +kernel
theorem dL_law_268 : decode code 268 = .ok (.iaload, 1) := by decide +kernel
theorem dL_law_269 : decode code 269 = .ok (.invokevirtual 36, 3) := by decide +kernel
theorem dL_law_272 : decode code 272 = .ok (.if_icmp .eq 605, 3) := by decide +kernel
theorem dL_law_275 : decode code 275 = .ok (.iconst 0, 1) := by decide +kernel
theorem dL_law_276 : decode code 276 = .ok (.ireturn, 1) := by decide +kernel
theorem dL_law_277 : decode code 277 = .ok (.aload_n 1, 1) := by decide +kernel
theorem dL_law_278 : decode code 278 = .ok (.aload_n 0, 1) := by decide +kernel
theorem dL_law_279 : decode code 279 = .ok (.iload_n 3, 1) := by decide +kernel
theorem dL_law_280 : decode code 280 = .ok (.iconst 1, 1) := by decide +kernel
theorem dL_law_281 : decode code 281 = .ok (.iadd, 1) := by decide +kernel
theorem dL_law_282 : decode code 282 = .ok (.iaload, 1) := by decide +kernel
theorem dL_law_283 : decode code 283 = .ok (.aload_n 0, 1) := by decide +kernel
theorem dL_law_284 : decode code 284 = .ok (.iload_n 3, 1) := by decide +kernel
theorem dL_law_285 : decode code 285 = .ok (.iconst 2, 1) := by decide +kernel
theorem dL_law_286 : decode code 286 = .ok (.iadd, 1) := by decide +kernel
theorem dL_law_287 : decode code 287 = .ok (.iaload, 1) := by decide +kernel
theorem dL_law_288 : decode code 288 = .ok (.ifCond .eq 7, 3) := by decide +kernel
theorem dL_law_291 : decode code 291 = .ok (.iconst 1, 1) := by decide +kernel
theorem dL_law_292 : decode code 292 = .ok (.goto 4, 3) := by decide +kernel
theorem dL_law_295 : decode code 295 = .ok (.iconst 0, 1) := by decide +kernel
theorem dL_law_296 : decode code 296 = .ok (.aload_n 0, 1) := by decide +kernel
theorem dL_law_297 : decode code 297 = .ok (.iload_n 3, 1) := by decide +kernel
theorem dL_law_298 : decode code 298 = .ok (.iconst 3, 1) := by decide +kernel
theorem dL_law_299 : decode code 299 = .ok (.iadd, 1) := by decide +kernel
theorem dL_law_300 : decode code 300 = .ok (.iaload, 1) := by decide +kernel
theorem dL_law_301 : decode code 301 = .ok (.invokevirtual 37, 3) := by decide +kernel
theorem dL_law_304 : decode code 304 = .ok (.aload_n 2, 1) := by decide +kernel
theorem dL_law_305 : decode code 305 = .ok (.aload_n 0, 1) := by decide +kernel
theorem dL_law_306 : decode code 306 = .ok (.iload_n 3, 1) := by decide +kernel
theorem dL_law_307 : decode code 307 = .ok (.iconst 1, 1) := by decide +kernel
theorem dL_law_308 : decode code 308 = .ok (.iadd, 1) := by decide +kernel
theorem dL_law_309 : decode code 309 = .ok (.iaload, 1) := by decide +kernel
theorem dL_law_310 : decode code 310 = .ok (.aload_n 0, 1) := by decide +kernel
theorem dL_law_311 : decode code 311 = .ok (.iload_n 3, 1) := by decide +kernel
theorem dL_law_312 : decode code 312 = .ok (.iconst 2, 1) := by decide +kernel
theorem dL_law_313 : decode code 313 = .ok (.iadd, 1) := by decide +kernel
theorem dL_law_314 : decode code 314 = .ok (.iaload, 1) := by decide +kernel
theorem dL_law_315 : decode code 315 = .ok (.ifCond .eq 7, 3) := by decide +kernel
theorem dL_law_318 : decode code 318 = .ok (.iconst 1, 1) := by decide +kernel
theorem dL_law_319 : decode code 319 = .ok (.goto 4, 3) := by decide +kernel
theorem dL_law_322 : decode code 322 = .ok (.iconst 0, 1) := by decide +kernel
theorem dL_law_323 : decode code 323 = .ok (.aload_n 0, 1) := by decide +kernel
theorem dL_law_324 : decode code 324 = .ok (.iload_n 3, 1) := by decide +kernel
theorem dL_law_325 : decode code 325 = .ok (.iconst 3, 1) := by decide +kernel
theorem dL_law_326 : decode code 326 = .ok (.iadd, 1) := by decide +kernel
theorem dL_law_327 : decode code 327 = .ok (.iaload, 1) := by decide +kernel
theorem dL_law_328 : decode code 328 = .ok (.invokevirtual 41, 3) := by decide +kernel
theorem dL_law_331 : decode code 331 = .ok (.if_icmp .eq 546, 3) := by decide +kernel
theorem dL_law_334 : decode code 334 = .ok (.iconst 0, 1) := by decide +kernel
theorem dL_law_335 : decode code 335 = .ok (.ireturn, 1) := by decide +kernel
theorem dL_law_336 : decode code 336 = .ok (.aload_n 1, 1) := by decide +kernel
theorem dL_law_337 : decode code 337 = .ok (.aload_n 0, 1) := by decide +kernel
theorem dL_law_338 : decode code 338 = .ok (.iload_n 3, 1) := by decide +kernel
theorem dL_law_339 : decode code 339 = .ok (.iconst 1, 1) := by decide +kernel
theorem dL_law_340 : decode code 340 = .ok (.iadd, 1) := by decide +kernel
theorem dL_law_341 : decode code 341 = .ok (.iaload, 1) := by decide +kernel
theorem dL_law_342 : decode code 342 = .ok (.aload_n 0, 1) := by decide +kernel
theorem dL_law_343 : decode code 343 = .ok (.iload_n 3, 1) := by decide +kernel
theorem dL_law_344 : decode code 344 = .ok (.iconst 2, 1) := by decide +kernel
theorem dL_law_345 : decode code 345 = .ok (.iadd, 1) := by decide +kernel
theorem dL_law_346 : decode code 346 = .ok (.iaload, 1) := by decide +kernel
theorem dL_law_347 : decode code 347 = .ok (.ifCond .eq 7, 3) := by decide +kernel
theorem dL_law_350 : decode code 350 = .ok (.iconst 1, 1) := by decide +kernel
theorem dL_law_351 : decode code 351 = .ok (.goto 4, 3) := by decide +kernel
theorem dL_law_354 : decode code 354 = .ok (.iconst 0, 1) := by decide +kernel
theorem dL_law_355 : decode code 355 = .ok (.aload_n 0, 1) := by decide +kernel
theorem dL_law_356 : decode code 356 = .ok (.iload_n 3, 1) := by decide +kernel
theorem dL_law_357 : decode code 357 = .ok (.iconst 3, 1) := by decide +kernel
theorem dL_law_358 : decode code 358 = .ok (.iadd, 1) := by decide +kernel
theorem dL_law_359 : decode code 359 = .ok (.iaload, 1) := by decide +kernel
theorem dL_law_360 : decode code 360 = .ok (.aload_n 0, 1) := by decide +kernel
theorem dL_law_361 : decode code 361 = .ok (.iload_n 3, 1) := by decide +kernel
theorem dL_law_362 : decode code 362 = .ok (.iconst 4, 1) := by decide +kernel
theorem dL_law_363 : decode code 363 = .ok (.iadd, 1) := by decide +kernel
theorem dL_law_364 : decode code 364 = .ok (.iaload, 1) := by decide +kernel
theorem dL_law_365 : decode code 365 = .ok (.invokevirtual 42, 3) := by decide +kernel
theorem dL_law_368 : decode code 368 = .ok (.aload_n 2, 1) := by decide +kernel
theorem dL_law_369 : decode code 369 = .ok (.aload_n 0, 1) := by decide +kernel
theorem dL_law_370 : decode code 370 = .ok (.iload_n 3, 1) := by decide +kernel
theorem dL_law_371 : decode code 371 = .ok (.iconst 1, 1) := by decide +kernel
theorem dL_law_372 : decode code 372 = .ok (.iadd, 1) := by decide +kernel
theorem dL_law_373 : decode code 373 = .ok (.iaload, 1) := by decide +kernel
theorem dL_law_374 : decode code 374 = .ok (.aload_n 0, 1) := by decide +kernel
theorem dL_law_375 : decode code 375 = .ok (.iload_n 3, 1) := by decide +kernel
theorem dL_law_376 : decode code 376 = .ok (.iconst 2, 1) := by decide +kernel
theorem dL_law_377 : decode code 377 = .ok (.iadd, 1) := by decide +kernel
theorem dL_law_378 : decode code 378 = .ok (.iaload, 1) := by decide +kernel
theorem dL_law_379 : decode code 379 = .ok (.ifCond .eq 7, 3) := by decide +kernel
theorem dL_law_382 : decode code 382 = .ok (.iconst 1, 1) := by decide +kernel
theorem dL_law_383 : decode code 383 = .ok (.goto 4, 3) := by decide +kernel
theorem dL_law_386 : decode code 386 = .ok (.iconst 0, 1) := by decide +kernel
theorem dL_law_387 : decode code 387 = .ok (.aload_n 0, 1) := by decide +kernel
theorem dL_law_388 : decode code 388 = .ok (.iload_n 3, 1) := by decide +kernel
theorem dL_law_389 : decode code 389 = .ok (.iconst 3, 1) := by decide +kernel
theorem dL_law_390 : decode code 390 = .ok (.iadd, 1) := by decide +kernel
theorem dL_law_391 : decode code 391 = .ok (.iaload, 1) := by decide +kernel
theorem dL_law_392 : decode code 392 = .ok (.aload_n 0, 1) := by decide +kernel
theorem dL_law_393 : decode code 393 = .ok (.iload_n 3, 1) := by decide +kernel
theorem dL_law_394 : decode code 394 = .ok (.iconst 4, 1) := by decide +kernel
theorem dL_law_395 : decode code 395 = .ok (.iadd, 1) := by decide +kernel
theorem dL_law_396 : decode code 396 = .ok (.iaload, 1) := by decide +kernel
theorem dL_law_397 : decode code 397 = .ok (.invokevirtual 46, 3) := by decide +kernel
theorem dL_law_400 : decode code 400 = .ok (.if_icmp .eq 477, 3) := by decide +kernel
theorem dL_law_403 : decode code 403 = .ok (.iconst 0, 1) := by decide +kernel
theorem dL_law_404 : decode code 404 = .ok (.ireturn, 1) := by decide +kernel
theorem dL_law_405 : decode code 405 = .ok (.aload_n 1, 1) := by decide +kernel
theorem dL_law_406 : decode code 406 = .ok (.aload_n 0, 1) := by decide +kernel
theorem dL_law_407 : decode code 407 = .ok (.iload_n 3, 1) := by decide +kernel
theorem dL_law_408 : decode code 408 = .ok (.iconst 1, 1) := by decide +kernel
theorem dL_law_409 : decode code 409 = .ok (.iadd, 1) := by decide +kernel
theorem dL_law_410 : decode code 410 = .ok (.iaload, 1) := by decide +kernel
theorem dL_law_411 : decode code 411 = .ok (.aload_n 0, 1) := by decide +kernel
theorem dL_law_412 : decode code 412 = .ok (.iload_n 3, 1) := by decide +kernel
theorem dL_law_413 : decode code 413 = .ok (.iconst 2, 1) := by decide +kernel
theorem dL_law_414 : decode code 414 = .ok (.iadd, 1) := by decide +kernel
theorem dL_law_415 : decode code 415 = .ok (.iaload, 1) := by decide +kernel
theorem dL_law_416 : decode code 416 = .ok (.aload_n 0, 1) := by decide +kernel
theorem dL_law_417 : decode code 417 = .ok (.iload_n 3, 1) := by decide +kernel
theorem dL_law_418 : decode code 418 = .ok (.iconst 3, 1) := by decide +kernel
theorem dL_law_419 : decode code 419 = .ok (.iadd, 1) := by decide +kernel
theorem dL_law_420 : decode code 420 = .ok (.iaload, 1) := by decide +kernel
theorem dL_law_421 : decode code 421 = .ok (.invokevirtual 47, 3) := by decide +kernel
theorem dL_law_424 : decode code 424 = .ok (.aload_n 2, 1) := by decide +kernel
theorem dL_law_425 : decode code 425 = .ok (.aload_n 0, 1) := by decide +kernel
theorem dL_law_426 : decode code 426 = .ok (.iload_n 3, 1) := by decide +kernel
theorem dL_law_427 : decode code 427 = .ok (.iconst 1, 1) := by decide +kernel
theorem dL_law_428 : decode code 428 = .ok (.iadd, 1) := by decide +kernel
theorem dL_law_429 : decode code 429 = .ok (.iaload, 1) := by decide +kernel
theorem dL_law_430 : decode code 430 = .ok (.aload_n 0, 1) := by decide +kernel
theorem dL_law_431 : decode code 431 = .ok (.iload_n 3, 1) := by decide +kernel
theorem dL_law_432 : decode code 432 = .ok (.iconst 2, 1) := by decide +kernel
theorem dL_law_433 : decode code 433 = .ok (.iadd, 1) := by decide +kernel
theorem dL_law_434 : decode code 434 = .ok (.iaload, 1) := by decide +kernel
theorem dL_law_435 : decode code 435 = .ok (.aload_n 0, 1) := by decide +kernel
theorem dL_law_436 : decode code 436 = .ok (.iload_n 3, 1) := by decide +kernel
theorem dL_law_437 : decode code 437 = .ok (.iconst 3, 1) := by decide +kernel
theorem dL_law_438 : decode code 438 = .ok (.iadd, 1) := by decide +kernel
theorem dL_law_439 : decode code 439 = .ok (.iaload, 1) := by decide +kernel
theorem dL_law_440 : decode code 440 = .ok (.invokevirtual 51, 3) := by decide +kernel
theorem dL_law_443 : decode code 443 = .ok (.if_icmp .eq 434, 3) := by decide +kernel
theorem dL_law_446 : decode code 446 = .ok (.iconst 0, 1) := by decide +kernel
theorem dL_law_447 : decode code 447 = .ok (.ireturn, 1) := by decide +kernel
theorem dL_law_448 : decode code 448 = .ok (.aload_n 1, 1) := by decide +kernel
theorem dL_law_449 : decode code 449 = .ok (.aload_n 0, 1) := by decide +kernel
theorem dL_law_450 : decode code 450 = .ok (.iload_n 3, 1) := by decide +kernel
theorem dL_law_451 : decode code 451 = .ok (.iconst 1, 1) := by decide +kernel
theorem dL_law_452 : decode code 452 = .ok (.iadd, 1) := by decide +kernel
theorem dL_law_453 : decode code 453 = .ok (.iaload, 1) := by decide +kernel
theorem dL_law_454 : decode code 454 = .ok (.aload_n 0, 1) := by decide +kernel
theorem dL_law_455 : decode code 455 = .ok (.iload_n 3, 1) := by decide +kernel
theorem dL_law_456 : decode code 456 = .ok (.iconst 2, 1) := by decide +kernel
theorem dL_law_457 : decode code 457 = .ok (.iadd, 1) := by decide +kernel
theorem dL_law_458 : decode code 458 = .ok (.iaload, 1) := by decide +kernel
theorem dL_law_459 : decode code 459 = .ok (.invokevirtual 52, 3) := by decide +kernel
theorem dL_law_462 : decode code 462 = .ok (.aload_n 2, 1) := by decide +kernel
theorem dL_law_463 : decode code 463 = .ok (.aload_n 0, 1) := by decide +kernel
theorem dL_law_464 : decode code 464 = .ok (.iload_n 3, 1) := by decide +kernel
theorem dL_law_465 : decode code 465 = .ok (.iconst 1, 1) := by decide +kernel
theorem dL_law_466 : decode code 466 = .ok (.iadd, 1) := by decide +kernel
theorem dL_law_467 : decode code 467 = .ok (.iaload, 1) := by decide +kernel
theorem dL_law_468 : decode code 468 = .ok (.aload_n 0, 1) := by decide +kernel
theorem dL_law_469 : decode code 469 = .ok (.iload_n 3, 1) := by decide +kernel
theorem dL_law_470 : decode code 470 = .ok (.iconst 2, 1) := by decide +kernel
theorem dL_law_471 : decode code 471 = .ok (.iadd, 1) := by decide +kernel
theorem dL_law_472 : decode code 472 = .ok (.iaload, 1) := by decide +kernel
theorem dL_law_473 : decode code 473 = .ok (.invokevirtual 55, 3) := by decide +kernel
theorem dL_law_476 : decode code 476 = .ok (.if_icmp .eq 401, 3) := by decide +kernel
theorem dL_law_479 : decode code 479 = .ok (.iconst 0, 1) := by decide +kernel
theorem dL_law_480 : decode code 480 = .ok (.ireturn, 1) := by decide +kernel
theorem dL_law_481 : decode code 481 = .ok (.aload_n 1, 1) := by decide +kernel
theorem dL_law_482 : decode code 482 = .ok (.aload_n 0, 1) := by decide +kernel
theorem dL_law_483 : decode code 483 = .ok (.iload_n 3, 1) := by decide +kernel
theorem dL_law_484 : decode code 484 = .ok (.iconst 1, 1) := by decide +kernel
theorem dL_law_485 : decode code 485 = .ok (.iadd, 1) := by decide +kernel
theorem dL_law_486 : decode code 486 = .ok (.iaload, 1) := by decide +kernel
theorem dL_law_487 : decode code 487 = .ok (.aload_n 0, 1) := by decide +kernel
theorem dL_law_488 : decode code 488 = .ok (.iload_n 3, 1) := by decide +kernel
theorem dL_law_489 : decode code 489 = .ok (.iconst 2, 1) := by decide +kernel
theorem dL_law_490 : decode code 490 = .ok (.iadd, 1) := by decide +kernel
theorem dL_law_491 : decode code 491 = .ok (.iaload, 1) := by decide +kernel
theorem dL_law_492 : decode code 492 = .ok (.aload_n 0, 1) := by decide +kernel
theorem dL_law_493 : decode code 493 = .ok (.iload_n 3, 1) := by decide +kernel
theorem dL_law_494 : decode code 494 = .ok (.iconst 3, 1) := by decide +kernel
theorem dL_law_495 : decode code 495 = .ok (.iadd, 1) := by decide +kernel
theorem dL_law_496 : decode code 496 = .ok (.iaload, 1) := by decide +kernel
theorem dL_law_497 : decode code 497 = .ok (.aload_n 0, 1) := by decide +kernel
theorem dL_law_498 : decode code 498 = .ok (.iload_n 3, 1) := by decide +kernel
theorem dL_law_499 : decode code 499 = .ok (.iconst 4, 1) := by decide +kernel
theorem dL_law_500 : decode code 500 = .ok (.iadd, 1) := by decide +kernel
theorem dL_law_501 : decode code 501 = .ok (.iaload, 1) := by decide +kernel
theorem dL_law_502 : decode code 502 = .ok (.aload_n 0, 1) := by decide +kernel
theorem dL_law_503 : decode code 503 = .ok (.iload_n 3, 1) := by decide +kernel
theorem dL_law_504 : decode code 504 = .ok (.iconst 5, 1) := by decide +kernel
theorem dL_law_505 : decode code 505 = .ok (.iadd, 1) := by decide +kernel
theorem dL_law_506 : decode code 506 = .ok (.iaload, 1) := by decide +kernel
theorem dL_law_507 : decode code 507 = .ok (.invokevirtual 56, 3) := by decide +kernel
theorem dL_law_510 : decode code 510 = .ok (.aload_n 2, 1) := by decide +kernel
theorem dL_law_511 : decode code 511 = .ok (.aload_n 0, 1) := by decide +kernel
theorem dL_law_512 : decode code 512 = .ok (.iload_n 3, 1) := by decide +kernel
theorem dL_law_513 : decode code 513 = .ok (.iconst 1, 1) := by decide +kernel
theorem dL_law_514 : decode code 514 = .ok (.iadd, 1) := by decide +kernel
theorem dL_law_515 : decode code 515 = .ok (.iaload, 1) := by decide +kernel
theorem dL_law_516 : decode code 516 = .ok (.aload_n 0, 1) := by decide +kernel
theorem dL_law_517 : decode code 517 = .ok (.iload_n 3, 1) := by decide +kernel
theorem dL_law_518 : decode code 518 = .ok (.iconst 2, 1) := by decide +kernel
theorem dL_law_519 : decode code 519 = .ok (.iadd, 1) := by decide +kernel
theorem dL_law_520 : decode code 520 = .ok (.iaload, 1) := by decide +kernel
theorem dL_law_521 : decode code 521 = .ok (.aload_n 0, 1) := by decide +kernel
theorem dL_law_522 : decode code 522 = .ok (.iload_n 3, 1) := by decide +kernel
theorem dL_law_523 : decode code 523 = .ok (.iconst 3, 1) := by decide +kernel
theorem dL_law_524 : decode code 524 = .ok (.iadd, 1) := by decide +kernel
theorem dL_law_525 : decode code 525 = .ok (.iaload, 1) := by decide +kernel
theorem dL_law_526 : decode code 526 = .ok (.aload_n 0, 1) := by decide +kernel
theorem dL_law_527 : decode code 527 = .ok (.iload_n 3, 1) := by decide +kernel
theorem dL_law_528 : decode code 528 = .ok (.iconst 4, 1) := by decide +kernel
theorem dL_law_529 : decode code 529 = .ok (.iadd, 1) := by decide +kernel
theorem dL_law_530 : decode code 530 = .ok (.iaload, 1) := by decide +kernel
theorem dL_law_531 : decode code 531 = .ok (.aload_n 0, 1) := by decide +kernel
theorem dL_law_532 : decode code 532 = .ok (.iload_n 3, 1) := by decide +kernel
theorem dL_law_533 : decode code 533 = .ok (.iconst 5, 1) := by decide +kernel
theorem dL_law_534 : decode code 534 = .ok (.iadd, 1) := by decide +kernel
theorem dL_law_535 : decode code 535 = .ok (.iaload, 1) := by decide +kernel
theorem dL_law_536 : decode code 536 = .ok (.invokevirtual 59, 3) := by decide +kernel
theorem dL_law_539 : decode code 539 = .ok (.if_icmp .eq 338, 3) := by decide +kernel
theorem dL_law_542 : decode code 542 = .ok (.iconst 0, 1) := by decide +kernel
theorem dL_law_543 : decode code 543 = .ok (.ireturn, 1) := by decide +kernel
theorem dL_law_544 : decode code 544 = .ok (.aload_n 1, 1) := by decide +kernel
theorem dL_law_545 : decode code 545 = .ok (.invokevirtual 60, 3) := by decide +kernel
theorem dL_law_548 : decode code 548 = .ok (.aload_n 2, 1) := by decide +kernel
theorem dL_law_549 : decode code 549 = .ok (.invokevirtual 63, 3) := by decide +kernel
theorem dL_law_552 : decode code 552 = .ok (.if_icmp .eq 325, 3) := by decide +kernel
theorem dL_law_555 : decode code 555 = .ok (.iconst 0, 1) := by decide +kernel
theorem dL_law_556 : decode code 556 = .ok (.ireturn, 1) := by decide +kernel
theorem dL_law_557 : decode code 557 = .ok (.aload_n 1, 1) := by decide +kernel
theorem dL_law_558 : decode code 558 = .ok (.aload_n 0, 1) := by decide +kernel
theorem dL_law_559 : decode code 559 = .ok (.iload_n 3, 1) := by decide +kernel
theorem dL_law_560 : decode code 560 = .ok (.iconst 1, 1) := by decide +kernel
theorem dL_law_561 : decode code 561 = .ok (.iadd, 1) := by decide +kernel
theorem dL_law_562 : decode code 562 = .ok (.iaload, 1) := by decide +kernel
theorem dL_law_563 : decode code 563 = .ok (.invokevirtual 64, 3) := by decide +kernel
theorem dL_law_566 : decode code 566 = .ok (.aload_n 2, 1) := by decide +kernel
theorem dL_law_567 : decode code 567 = .ok (.aload_n 0, 1) := by decide +kernel
theorem dL_law_568 : decode code 568 = .ok (.iload_n 3, 1) := by decide +kernel
theorem dL_law_569 : decode code 569 = .ok (.iconst 1, 1) := by decide +kernel
theorem dL_law_570 : decode code 570 = .ok (.iadd, 1) := by decide +kernel
theorem dL_law_571 : decode code 571 = .ok (.iaload, 1) := by decide +kernel
theorem dL_law_572 : decode code 572 = .ok (.invokevirtual 67, 3) := by decide +kernel
theorem dL_law_575 : decode code 575 = .ok (.if_icmp .eq 302, 3) := by decide +kernel
theorem dL_law_578 : decode code 578 = .ok (.iconst 0, 1) := by decide +kernel
theorem dL_law_579 : decode code 579 = .ok (.ireturn, 1) := by decide +kernel
theorem dL_law_580 : decode code 580 = .ok (.aload_n 1, 1) := by decide +kernel
theorem dL_law_581 : decode code 581 = .ok (.aload_n 0, 1) := by decide +kernel
theorem dL_law_582 : decode code 582 = .ok (.iload_n 3, 1) := by decide +kernel
theorem dL_law_583 : decode code 583 = .ok (.iconst 1, 1) := by decide +kernel
theorem dL_law_584 : decode code 584 = .ok (.iadd, 1) := by decide +kernel
theorem dL_law_585 : decode code 585 = .ok (.iaload, 1) := by decide +kernel
theorem dL_law_586 : decode code 586 = .ok (.invokevirtual 68, 3) := by decide +kernel
theorem dL_law_589 : decode code 589 = .ok (.aload_n 2, 1) := by decide +kernel
theorem dL_law_590 : decode code 590 = .ok (.aload_n 0, 1) := by decide +kernel
theorem dL_law_591 : decode code 591 = .ok (.iload_n 3, 1) := by decide +kernel
theorem dL_law_592 : decode code 592 = .ok (.iconst 1, 1) := by decide +kernel
theorem dL_law_593 : decode code 593 = .ok (.iadd, 1) := by decide +kernel
theorem dL_law_594 : decode code 594 = .ok (.iaload, 1) := by decide +kernel
theorem dL_law_595 : decode code 595 = .ok (.invokevirtual 71, 3) := by decide +kernel
theorem dL_law_598 : decode code 598 = .ok (.if_icmp .eq 279, 3) := by decide +kernel
theorem dL_law_601 : decode code 601 = .ok (.iconst 0, 1) := by decide +kernel
theorem dL_law_602 : decode code 602 = .ok (.ireturn, 1) := by decide +kernel
theorem dL_law_603 : decode code 603 = .ok (.aload_n 1, 1) := by decide +kernel
theorem dL_law_604 : decode code 604 = .ok (.aload_n 0, 1) := by decide +kernel
theorem dL_law_605 : decode code 605 = .ok (.iload_n 3, 1) := by decide +kernel
theorem dL_law_606 : decode code 606 = .ok (.iconst 1, 1) := by decide +kernel
theorem dL_law_607 : decode code 607 = .ok (.iadd, 1) := by decide +kernel
theorem dL_law_608 : decode code 608 = .ok (.iaload, 1) := by decide +kernel
theorem dL_law_609 : decode code 609 = .ok (.aload_n 0, 1) := by decide +kernel
theorem dL_law_610 : decode code 610 = .ok (.iload_n 3, 1) := by decide +kernel
theorem dL_law_611 : decode code 611 = .ok (.iconst 2, 1) := by decide +kernel
theorem dL_law_612 : decode code 612 = .ok (.iadd, 1) := by decide +kernel
theorem dL_law_613 : decode code 613 = .ok (.iaload, 1) := by decide +kernel
theorem dL_law_614 : decode code 614 = .ok (.aload_n 0, 1) := by decide +kernel
theorem dL_law_615 : decode code 615 = .ok (.iload_n 3, 1) := by decide +kernel
theorem dL_law_616 : decode code 616 = .ok (.iconst 3, 1) := by decide +kernel
theorem dL_law_617 : decode code 617 = .ok (.iadd, 1) := by decide +kernel
theorem dL_law_618 : decode code 618 = .ok (.iaload, 1) := by decide +kernel
theorem dL_law_619 : decode code 619 = .ok (.aload_n 0, 1) := by decide +kernel
theorem dL_law_620 : decode code 620 = .ok (.iload_n 3, 1) := by decide +kernel
theorem dL_law_621 : decode code 621 = .ok (.iconst 4, 1) := by decide +kernel
theorem dL_law_622 : decode code 622 = .ok (.iadd, 1) := by decide +kernel
theorem dL_law_623 : decode code 623 = .ok (.iaload, 1) := by decide +kernel
theorem dL_law_624 : decode code 624 = .ok (.aload_n 0, 1) := by decide +kernel
theorem dL_law_625 : decode code 625 = .ok (.iload_n 3, 1) := by decide +kernel
theorem dL_law_626 : decode code 626 = .ok (.iconst 5, 1) := by decide +kernel
theorem dL_law_627 : decode code 627 = .ok (.iadd, 1) := by decide +kernel
theorem dL_law_628 : decode code 628 = .ok (.iaload, 1) := by decide +kernel
theorem dL_law_629 : decode code 629 = .ok (.invokevirtual 72, 3) := by decide +kernel
theorem dL_law_632 : decode code 632 = .ok (.aload_n 2, 1) := by decide +kernel
theorem dL_law_633 : decode code 633 = .ok (.aload_n 0, 1) := by decide +kernel
theorem dL_law_634 : decode code 634 = .ok (.iload_n 3, 1) := by decide +kernel
theorem dL_law_635 : decode code 635 = .ok (.iconst 1, 1) := by decide +kernel
theorem dL_law_636 : decode code 636 = .ok (.iadd, 1) := by decide +kernel
theorem dL_law_637 : decode code 637 = .ok (.iaload, 1) := by decide +kernel
theorem dL_law_638 : decode code 638 = .ok (.aload_n 0, 1) := by decide +kernel
theorem dL_law_639 : decode code 639 = .ok (.iload_n 3, 1) := by decide +kernel
theorem dL_law_640 : decode code 640 = .ok (.iconst 2, 1) := by decide +kernel
theorem dL_law_641 : decode code 641 = .ok (.iadd, 1) := by decide +kernel
theorem dL_law_642 : decode code 642 = .ok (.iaload, 1) := by decide +kernel
theorem dL_law_643 : decode code 643 = .ok (.aload_n 0, 1) := by decide +kernel
theorem dL_law_644 : decode code 644 = .ok (.iload_n 3, 1) := by decide +kernel
theorem dL_law_645 : decode code 645 = .ok (.iconst 3, 1) := by decide +kernel
theorem dL_law_646 : decode code 646 = .ok (.iadd, 1) := by decide +kernel
theorem dL_law_647 : decode code 647 = .ok (.iaload, 1) := by decide +kernel
theorem dL_law_648 : decode code 648 = .ok (.aload_n 0, 1) := by decide +kernel
theorem dL_law_649 : decode code 649 = .ok (.iload_n 3, 1) := by decide +kernel
theorem dL_law_650 : decode code 650 = .ok (.iconst 4, 1) := by decide +kernel
theorem dL_law_651 : decode code 651 = .ok (.iadd, 1) := by decide +kernel
theorem dL_law_652 : decode code 652 = .ok (.iaload, 1) := by decide +kernel
theorem dL_law_653 : decode code 653 = .ok (.aload_n 0, 1) := by decide +kernel
theorem dL_law_654 : decode code 654 = .ok (.iload_n 3, 1) := by decide +kernel
theorem dL_law_655 : decode code 655 = .ok (.iconst 5, 1) := by decide +kernel
theorem dL_law_656 : decode code 656 = .ok (.iadd, 1) := by decide +kernel
theorem dL_law_657 : decode code 657 = .ok (.iaload, 1) := by decide +kernel
theorem dL_law_658 : decode code 658 = .ok (.invokevirtual 75, 3) := by decide +kernel
theorem dL_law_661 : decode code 661 = .ok (.if_icmp .eq 216, 3) := by decide +kernel
theorem dL_law_664 : decode code 664 = .ok (.iconst 0, 1) := by decide +kernel
theorem dL_law_665 : decode code 665 = .ok (.ireturn, 1) := by decide +kernel
theorem dL_law_666 : decode code 666 = .ok (.aload_n 1, 1) := by decide +kernel
theorem dL_law_667 : decode code 667 = .ok (.aload_n 0, 1) := by decide +kernel
theorem dL_law_668 : decode code 668 = .ok (.iload_n 3, 1) := by decide +kernel
theorem dL_law_669 : decode code 669 = .ok (.iconst 1, 1) := by decide +kernel
theorem dL_law_670 : decode code 670 = .ok (.iadd, 1) := by decide +kernel
theorem dL_law_671 : decode code 671 = .ok (.iaload, 1) := by decide +kernel
theorem dL_law_672 : decode code 672 = .ok (.aload_n 0, 1) := by decide +kernel
theorem dL_law_673 : decode code 673 = .ok (.iload_n 3, 1) := by decide +kernel
theorem dL_law_674 : decode code 674 = .ok (.iconst 2, 1) := by decide +kernel
theorem dL_law_675 : decode code 675 = .ok (.iadd, 1) := by decide +kernel
theorem dL_law_676 : decode code 676 = .ok (.iaload, 1) := by decide +kernel
theorem dL_law_677 : decode code 677 = .ok (.invokevirtual 76, 3) := by decide +kernel
theorem dL_law_680 : decode code 680 = .ok (.aload_n 2, 1) := by decide +kernel
theorem dL_law_681 : decode code 681 = .ok (.aload_n 0, 1) := by decide +kernel
theorem dL_law_682 : decode code 682 = .ok (.iload_n 3, 1) := by decide +kernel
theorem dL_law_683 : decode code 683 = .ok (.iconst 1, 1) := by decide +kernel
theorem dL_law_684 : decode code 684 = .ok (.iadd, 1) := by decide +kernel
theorem dL_law_685 : decode code 685 = .ok (.iaload, 1) := by decide +kernel
theorem dL_law_686 : decode code 686 = .ok (.aload_n 0, 1) := by decide +kernel
theorem dL_law_687 : decode code 687 = .ok (.iload_n 3, 1) := by decide +kernel
theorem dL_law_688 : decode code 688 = .ok (.iconst 2, 1) := by decide +kernel
theorem dL_law_689 : decode code 689 = .ok (.iadd, 1) := by decide +kernel
theorem dL_law_690 : decode code 690 = .ok (.iaload, 1) := by decide +kernel
theorem dL_law_691 : decode code 691 = .ok (.invokevirtual 79, 3) := by decide +kernel
theorem dL_law_694 : decode code 694 = .ok (.if_icmp .eq 183, 3) := by decide +kernel
theorem dL_law_697 : decode code 697 = .ok (.iconst 0, 1) := by decide +kernel
theorem dL_law_698 : decode code 698 = .ok (.ireturn, 1) := by decide +kernel
theorem dL_law_699 : decode code 699 = .ok (.aload_n 1, 1) := by decide +kernel
theorem dL_law_700 : decode code 700 = .ok (.aload_n 0, 1) := by decide +kernel
theorem dL_law_701 : decode code 701 = .ok (.iload_n 3, 1) := by decide +kernel
theorem dL_law_702 : decode code 702 = .ok (.iconst 1, 1) := by decide +kernel
theorem dL_law_703 : decode code 703 = .ok (.iadd, 1) := by decide +kernel
theorem dL_law_704 : decode code 704 = .ok (.iaload, 1) := by decide +kernel
theorem dL_law_705 : decode code 705 = .ok (.aload_n 0, 1) := by decide +kernel
theorem dL_law_706 : decode code 706 = .ok (.iload_n 3, 1) := by decide +kernel
theorem dL_law_707 : decode code 707 = .ok (.iconst 2, 1) := by decide +kernel
theorem dL_law_708 : decode code 708 = .ok (.iadd, 1) := by decide +kernel
theorem dL_law_709 : decode code 709 = .ok (.iaload, 1) := by decide +kernel
theorem dL_law_710 : decode code 710 = .ok (.invokevirtual 80, 3) := by decide +kernel
theorem dL_law_713 : decode code 713 = .ok (.aload_n 2, 1) := by decide +kernel
theorem dL_law_714 : decode code 714 = .ok (.aload_n 0, 1) := by decide +kernel
theorem dL_law_715 : decode code 715 = .ok (.iload_n 3, 1) := by decide +kernel
theorem dL_law_716 : decode code 716 = .ok (.iconst 1, 1) := by decide +kernel
theorem dL_law_717 : decode code 717 = .ok (.iadd, 1) := by decide +kernel
theorem dL_law_718 : decode code 718 = .ok (.iaload, 1) := by decide +kernel
theorem dL_law_719 : decode code 719 = .ok (.aload_n 0, 1) := by decide +kernel
theorem dL_law_720 : decode code 720 = .ok (.iload_n 3, 1) := by decide +kernel
theorem dL_law_721 : decode code 721 = .ok (.iconst 2, 1) := by decide +kernel
theorem dL_law_722 : decode code 722 = .ok (.iadd, 1) := by decide +kernel
theorem dL_law_723 : decode code 723 = .ok (.iaload, 1) := by decide +kernel
theorem dL_law_724 : decode code 724 = .ok (.invokevirtual 83, 3) := by decide +kernel
theorem dL_law_727 : decode code 727 = .ok (.if_icmp .eq 150, 3) := by decide +kernel
theorem dL_law_730 : decode code 730 = .ok (.iconst 0, 1) := by decide +kernel
theorem dL_law_731 : decode code 731 = .ok (.ireturn, 1) := by decide +kernel
theorem dL_law_732 : decode code 732 = .ok (.aload_n 1, 1) := by decide +kernel
theorem dL_law_733 : decode code 733 = .ok (.aload_n 0, 1) := by decide +kernel
theorem dL_law_734 : decode code 734 = .ok (.iload_n 3, 1) := by decide +kernel
theorem dL_law_735 : decode code 735 = .ok (.iconst 1, 1) := by decide +kernel
theorem dL_law_736 : decode code 736 = .ok (.iadd, 1) := by decide +kernel
theorem dL_law_737 : decode code 737 = .ok (.iaload, 1) := by decide +kernel
theorem dL_law_738 : decode code 738 = .ok (.aload_n 0, 1) := by decide +kernel
theorem dL_law_739 : decode code 739 = .ok (.iload_n 3, 1) := by decide +kernel
theorem dL_law_740 : decode code 740 = .ok (.iconst 2, 1) := by decide +kernel
theorem dL_law_741 : decode code 741 = .ok (.iadd, 1) := by decide +kernel
theorem dL_law_742 : decode code 742 = .ok (.iaload, 1) := by decide +kernel
theorem dL_law_743 : decode code 743 = .ok (.invokevirtual 84, 3) := by decide +kernel
theorem dL_law_746 : decode code 746 = .ok (.aload_n 2, 1) := by decide +kernel
theorem dL_law_747 : decode code 747 = .ok (.aload_n 0, 1) := by decide +kernel
theorem dL_law_748 : decode code 748 = .ok (.iload_n 3, 1) := by decide +kernel
theorem dL_law_749 : decode code 749 = .ok (.iconst 1, 1) := by decide +kernel
theorem dL_law_750 : decode code 750 = .ok (.iadd, 1) := by decide +kernel
theorem dL_law_751 : decode code 751 = .ok (.iaload, 1) := by decide +kernel
theorem dL_law_752 : decode code 752 = .ok (.aload_n 0, 1) := by decide +kernel
theorem dL_law_753 : decode code 753 = .ok (.iload_n 3, 1) := by decide +kernel
theorem dL_law_754 : decode code 754 = .ok (.iconst 2, 1) := by decide +kernel
theorem dL_law_755 : decode code 755 = .ok (.iadd, 1) := by decide +kernel
theorem dL_law_756 : decode code 756 = .ok (.iaload, 1) := by decide +kernel
theorem dL_law_757 : decode code 757 = .ok (.invokevirtual 87, 3) := by decide +kernel
theorem dL_law_760 : decode code 760 = .ok (.if_icmp .eq 117, 3) := by decide +kernel
theorem dL_law_763 : decode code 763 = .ok (.iconst 0, 1) := by decide +kernel
theorem dL_law_764 : decode code 764 = .ok (.ireturn, 1) := by decide +kernel
theorem dL_law_765 : decode code 765 = .ok (.aload_n 1, 1) := by decide +kernel
theorem dL_law_766 : decode code 766 = .ok (.aload_n 0, 1) := by decide +kernel
theorem dL_law_767 : decode code 767 = .ok (.iload_n 3, 1) := by decide +kernel
theorem dL_law_768 : decode code 768 = .ok (.iconst 1, 1) := by decide +kernel
theorem dL_law_769 : decode code 769 = .ok (.iadd, 1) := by decide +kernel
theorem dL_law_770 : decode code 770 = .ok (.iaload, 1) := by decide +kernel
theorem dL_law_771 : decode code 771 = .ok (.aload_n 0, 1) := by decide +kernel
theorem dL_law_772 : decode code 772 = .ok (.iload_n 3, 1) := by decide +kernel
theorem dL_law_773 : decode code 773 = .ok (.iconst 2, 1) := by decide +kernel
theorem dL_law_774 : decode code 774 = .ok (.iadd, 1) := by decide +kernel
theorem dL_law_775 : decode code 775 = .ok (.iaload, 1) := by decide +kernel
theorem dL_law_776 : decode code 776 = .ok (.aload_n 0, 1) := by decide +kernel
theorem dL_law_777 : decode code 777 = .ok (.iload_n 3, 1) := by decide +kernel
theorem dL_law_778 : decode code 778 = .ok (.iconst 3, 1) := by decide +kernel
theorem dL_law_779 : decode code 779 = .ok (.iadd, 1) := by decide +kernel
theorem dL_law_780 : decode code 780 = .ok (.iaload, 1) := by decide +kernel
theorem dL_law_781 : decode code 781 = .ok (.invokevirtual 88, 3) := by decide +kernel
theorem dL_law_784 : decode code 784 = .ok (.aload_n 2, 1) := by decide +kernel
theorem dL_law_785 : decode code 785 = .ok (.aload_n 0, 1) := by decide +kernel
theorem dL_law_786 : decode code 786 = .ok (.iload_n 3, 1) := by decide +kernel
theorem dL_law_787 : decode code 787 = .ok (.iconst 1, 1) := by decide +kernel
theorem dL_law_788 : decode code 788 = .ok (.iadd, 1) := by decide +kernel
theorem dL_law_789 : decode code 789 = .ok (.iaload, 1) := by decide +kernel
theorem dL_law_790 : decode code 790 = .ok (.aload_n 0, 1) := by decide +kernel
theorem dL_law_791 : decode code 791 = .ok (.iload_n 3, 1) := by decide +kernel
theorem dL_law_792 : decode code 792 = .ok (.iconst 2, 1) := by decide +kernel
theorem dL_law_793 : decode code 793 = .ok (.iadd, 1) := by decide +kernel
theorem dL_law_794 : decode code 794 = .ok (.iaload, 1) := by decide +kernel
theorem dL_law_795 : decode code 795 = .ok (.aload_n 0, 1) := by decide +kernel
theorem dL_law_796 : decode code 796 = .ok (.iload_n 3, 1) := by decide +kernel
theorem dL_law_797 : decode code 797 = .ok (.iconst 3, 1) := by decide +kernel
theorem dL_law_798 : decode code 798 = .ok (.iadd, 1) := by decide +kernel
theorem dL_law_799 : decode code 799 = .ok (.iaload, 1) := by decide +kernel
theorem dL_law_800 : decode code 800 = .ok (.invokevirtual 91, 3) := by decide +kernel
theorem dL_law_803 : decode code 803 = .ok (.if_icmp .eq 74, 3) := by decide +kernel
theorem dL_law_806 : decode code 806 = .ok (.iconst 0, 1) := by decide +kernel
theorem dL_law_807 : decode code 807 = .ok (.ireturn, 1) := by decide +kernel
theorem dL_law_808 : decode code 808 = .ok (.aload_n 1, 1) := by decide +kernel
theorem dL_law_809 : decode code 809 = .ok (.aload_n 0, 1) := by decide +kernel
theorem dL_law_810 : decode code 810 = .ok (.iload_n 3, 1) := by decide +kernel
theorem dL_law_811 : decode code 811 = .ok (.iconst 1, 1) := by decide +kernel
theorem dL_law_812 : decode code 812 = .ok (.iadd, 1) := by decide +kernel
theorem dL_law_813 : decode code 813 = .ok (.iaload, 1) := by decide +kernel
theorem dL_law_814 : decode code 814 = .ok (.aload_n 0, 1) := by decide +kernel
theorem dL_law_815 : decode code 815 = .ok (.iload_n 3, 1) := by decide +kernel
theorem dL_law_816 : decode code 816 = .ok (.iconst 2, 1) := by decide +kernel
theorem dL_law_817 : decode code 817 = .ok (.iadd, 1) := by decide +kernel
theorem dL_law_818 : decode code 818 = .ok (.iaload, 1) := by decide +kernel
theorem dL_law_819 : decode code 819 = .ok (.invokevirtual 92, 3) := by decide +kernel
theorem dL_law_822 : decode code 822 = .ok (.aload_n 2, 1) := by decide +kernel
theorem dL_law_823 : decode code 823 = .ok (.aload_n 0, 1) := by decide +kernel
theorem dL_law_824 : decode code 824 = .ok (.iload_n 3, 1) := by decide +kernel
theorem dL_law_825 : decode code 825 = .ok (.iconst 1, 1) := by decide +kernel
theorem dL_law_826 : decode code 826 = .ok (.iadd, 1) := by decide +kernel
theorem dL_law_827 : decode code 827 = .ok (.iaload, 1) := by decide +kernel
theorem dL_law_828 : decode code 828 = .ok (.aload_n 0, 1) := by decide +kernel
theorem dL_law_829 : decode code 829 = .ok (.iload_n 3, 1) := by decide +kernel
theorem dL_law_830 : decode code 830 = .ok (.iconst 2, 1) := by decide +kernel
theorem dL_law_831 : decode code 831 = .ok (.iadd, 1) := by decide +kernel
theorem dL_law_832 : decode code 832 = .ok (.iaload, 1) := by decide +kernel
theorem dL_law_833 : decode code 833 = .ok (.invokevirtual 95, 3) := by decide +kernel
theorem dL_law_836 : decode code 836 = .ok (.if_icmp .eq 41, 3) := by decide +kernel
theorem dL_law_839 : decode code 839 = .ok (.iconst 0, 1) := by decide +kernel
theorem dL_law_840 : decode code 840 = .ok (.ireturn, 1) := by decide +kernel
theorem dL_law_841 : decode code 841 = .ok (.aload_n 1, 1) := by decide +kernel
theorem dL_law_842 : decode code 842 = .ok (.invokevirtual 96, 3) := by decide +kernel
theorem dL_law_845 : decode code 845 = .ok (.aload_n 2, 1) := by decide +kernel
theorem dL_law_846 : decode code 846 = .ok (.invokevirtual 99, 3) := by decide +kernel
theorem dL_law_849 : decode code 849 = .ok (.if_icmp .eq 28, 3) := by decide +kernel
theorem dL_law_852 : decode code 852 = .ok (.iconst 0, 1) := by decide +kernel
theorem dL_law_853 : decode code 853 = .ok (.ireturn, 1) := by decide +kernel
theorem dL_law_854 : decode code 854 = .ok (.aload_n 1, 1) := by decide +kernel
theorem dL_law_855 : decode code 855 = .ok (.aload_n 0, 1) := by decide +kernel
theorem dL_law_856 : decode code 856 = .ok (.iload_n 3, 1) := by decide +kernel
theorem dL_law_857 : decode code 857 = .ok (.iconst 1, 1) := by decide +kernel
theorem dL_law_858 : decode code 858 = .ok (.iadd, 1) := by decide +kernel
theorem dL_law_859 : decode code 859 = .ok (.iaload, 1) := by decide +kernel
theorem dL_law_860 : decode code 860 = .ok (.invokevirtual 100, 3) := by decide +kernel
theorem dL_law_863 : decode code 863 = .ok (.aload_n 2, 1) := by decide +kernel
theorem dL_law_864 : decode code 864 = .ok (.aload_n 0, 1) := by decide +kernel
theorem dL_law_865 : decode code 865 = .ok (.iload_n 3, 1) := by decide +kernel
theorem dL_law_866 : decode code 866 = .ok (.iconst 1, 1) := by decide +kernel
theorem dL_law_867 : decode code 867 = .ok (.iadd, 1) := by decide +kernel
theorem dL_law_868 : decode code 868 = .ok (.iaload, 1) := by decide +kernel
theorem dL_law_869 : decode code 869 = .ok (.invokevirtual 103, 3) := by decide +kernel
theorem dL_law_872 : decode code 872 = .ok (.if_icmp .eq 5, 3) := by decide +kernel
theorem dL_law_875 : decode code 875 = .ok (.iconst 0, 1) := by decide +kernel
theorem dL_law_876 : decode code 876 = .ok (.ireturn, 1) := by decide +kernel
theorem dL_law_877 : decode code 877 = .ok (.iinc 3 6, 3) := by decide +kernel
theorem dL_law_880 : decode code 880 = .ok (.goto (-862), 3) := by decide +kernel
theorem dL_law_883 : decode code 883 = .ok (.iconst 1, 1) := by decide +kernel
theorem dL_law_884 : decode code 884 = .ok (.ireturn, 1) := by decide +kernel
