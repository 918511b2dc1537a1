theorem dX10_leads_96 : decode cX10_leads 96 = .ok (.iadd, 1) := by decide +kernel
theorem dX10_leads_97 : decode cX10_leads 97 = .ok (.iaload, 1) := by decide +kernel
theorem dX10_leads_98 : decode cX10_leads 98 = .ok (.invokestatic 226, 3) := by decide +kernel
theorem dX10_leads_101 : decode cX10_leads 101 = .ok (.iadd, 1) := by decide +kernel
theorem dX10_leads_102 : decode cX10_leads 102 = .ok (.ireturn, 1) := by decide +kernel
theorem dX10_jumps_0 : decode cX10_jumps 0 = .ok (.aload_n 0, 1) := by decide +kernel
theorem dX10_jumps_1 : decode cX10_jumps 1 = .ok (.getfield 26, 3) := by decide +kernel
theorem dX10_jumps_4 : decode cX10_jumps 4 = .ok (.sipush 400, 3) := by decide +kernel
theorem dX10_jumps_7 : decode cX10_jumps 7 = .ok (.iload_n 1, 1) := by decide +kernel
theorem dX10_jumps_8 : decode cX10_jumps 8 = .ok (.imul, 1) := by decide +kernel
theorem dX10_jumps_9 : decode cX10_jumps 9 = .ok (.iload_n 2, 1) := by decide +kernel
theorem dX10_jumps_10 : decode cX10_jumps 10 = .ok (.iadd, 1) := by decide +kernel
theorem dX10_jumps_11 : decode cX10_jumps 11 = .ok (.iaload, 1) := by decide +kernel
theorem dX10_jumps_12 : decode cX10_jumps 12 = .ok (.istore_n 3, 1) := by decide +kernel
theorem dX10_jumps_13 : decode cX10_jumps 13 = .ok (.iload_n 3, 1) := by decide +kernel
theorem dX10_jumps_14 : decode cX10_jumps 14 = .ok (.bipush 33, 2) := by decide +kernel
theorem dX10_jumps_16 : decode cX10_jumps 16 = .ok (.if_icmp .ne 22, 3) := by decide +kernel
theorem dX10_jumps_19 : decode cX10_jumps 19 = .ok (.aload_n 0, 1) := by decide +kernel
theorem dX10_jumps_20 : decode cX10_jumps 20 = .ok (.getfield 26, 3) := by decide +kernel
theorem dX10_jumps_23 : decode cX10_jumps 23 = .ok (.sipush 400, 3) := by decide +kernel
theorem dX10_jumps_26 : decode cX10_jumps 26 = .ok (.iload_n 1, 1) := by decide +kernel
theorem dX10_jumps_27 : decode cX10_jumps 27 = .ok (.imul, 1) := by decide +kernel
theorem dX10_jumps_28 : decode cX10_jumps 28 = .ok (.iload_n 2, 1) := by decide +kernel
theorem dX10_jumps_29 : decode cX10_jumps 29 = .ok (.iadd, 1) := by decide +kernel
theorem dX10_jumps_30 : decode cX10_jumps 30 = .ok (.iconst 1, 1) := by decide +kernel
theorem dX10_jumps_31 : decode cX10_jumps 31 = .ok (.iadd, 1) := by decide +kernel
theorem dX10_jumps_32 : decode cX10_jumps 32 = .ok (.iaload, 1) := by decide +kernel
theorem dX10_jumps_33 : decode cX10_jumps 33 = .ok (.iconst 1, 1) := by decide +kernel
theorem dX10_jumps_34 : decode cX10_jumps 34 = .ok (.iadd, 1) := by decide +kernel
theorem dX10_jumps_35 : decode cX10_jumps 35 = .ok (.goto 15, 3) := by decide +kernel
theorem dX10_jumps_38 : decode cX10_jumps 38 = .ok (.iload_n 3, 1) := by decide +kernel
theorem dX10_jumps_39 : decode cX10_jumps 39 = .ok (.invokestatic 233, 3) := by decide +kernel
theorem dX10_jumps_42 : decode cX10_jumps 42 = .ok (.ifCond .eq 7, 3) := by decide +kernel
theorem dX10_jumps_45 : decode cX10_jumps 45 = .ok (.iconst 1, 1) := by decide +kernel
theorem dX10_jumps_46 : decode cX10_jumps 46 = .ok (.goto 4, 3) := by decide +kernel
theorem dX10_jumps_49 : decode cX10_jumps 49 = .ok (.iconst 0, 1) := by decide +kernel
theorem dX10_jumps_50 : decode cX10_jumps 50 = .ok (.ireturn, 1) := by decide +kernel
theorem dX10_fault_0 : decode cX10_fault 0 = .ok (.aload_n 0, 1) := by decide +kernel
theorem dX10_fault_1 : decode cX10_fault 1 = .ok (.iload_n 2, 1) := by decide +kernel
theorem dX10_fault_2 : decode cX10_fault 2 = .ok (.putfield 13, 3) := by decide +kernel
theorem dX10_fault_5 : decode cX10_fault 5 = .ok (.bipush (-10), 2) := by decide +kernel
theorem dX10_fault_7 : decode cX10_fault 7 = .ok (.iload_n 1, 1) := by decide +kernel
theorem dX10_fault_8 : decode cX10_fault 8 = .ok (.isub, 1) := by decide +kernel
theorem dX10_fault_9 : decode cX10_fault 9 = .ok (.ireturn, 1) := by decide +kernel
theorem dX10_make_0 : decode cX10_make 0 = .ok (.aload_n 0, 1) := by decide +kernel
theorem dX10_make_1 : decode cX10_make 1 = .ok (.getfield 210, 3) := by decide +kernel
theorem dX10_make_4 : decode cX10_make 4 = .ok (.istore_n 1, 1) := by decide +kernel
theorem dX10_make_5 : decode cX10_make 5 = .ok (.aload_n 0, 1) := by decide +kernel
theorem dX10_make_6 : decode cX10_make 6 = .ok (.iconst 0, 1) := by decide +kernel
theorem dX10_make_7 : decode cX10_make 7 = .ok (.putfield 210, 3) := by decide +kernel
theorem dX10_make_10 : decode cX10_make 10 = .ok (.aload_n 0, 1) := by decide +kernel
theorem dX10_make_11 : decode cX10_make 11 = .ok (.iconst (-1), 1) := by decide +kernel
theorem dX10_make_12 : decode cX10_make 12 = .ok (.putfield 13, 3) := by decide +kernel
theorem dX10_make_15 : decode cX10_make 15 = .ok (.aload_n 0, 1) := by decide +kernel
theorem dX10_make_16 : decode cX10_make 16 = .ok (.getfield 237, 3) := by decide +kernel
theorem dX10_make_19 : decode cX10_make 19 = .ok (.bipush 6, 2) := by decide +kernel
theorem dX10_make_21 : decode cX10_make 21 = .ok (.if_icmp .ne 6, 3) := by decide +kernel
theorem dX10_make_24 : decode cX10_make 24 = .ok (.bipush (-3), 2) := by decide +kernel
theorem dX10_make_26 : decode cX10_make 26 = .ok (.ireturn, 1) := by decide +kernel
theorem dX10_make_27 : decode cX10_make 27 = .ok (.aload_n 0, 1) := by decide +kernel
theorem dX10_make_28 : decode cX10_make 28 = .ok (.getfield 237, 3) := by decide +kernel
theorem dX10_make_31 : decode cX10_make 31 = .ok (.istore_n 2, 1) := by decide +kernel
theorem dX10_make_32 : decode cX10_make 32 = .ok (.aload_n 0, 1) := by decide +kernel
theorem dX10_make_33 : decode cX10_make 33 = .ok (.iload_n 2, 1) := by decide +kernel
theorem dX10_make_34 : decode cX10_make 34 = .ok (.iload_n 1, 1) := by decide +kernel
theorem dX10_make_35 : decode cX10_make 35 = .ok (.invokevirtual 240, 3) := by decide +kernel
theorem dX10_make_38 : decode cX10_make 38 = .ok (.istore_n 3, 1) := by decide +kernel
theorem dX10_make_39 : decode cX10_make 39 = .ok (.iload_n 3, 1) := by decide +kernel
theorem dX10_make_40 : decode cX10_make 40 = .ok (.iconst (-1), 1) := by decide +kernel
theorem dX10_make_41 : decode cX10_make 41 = .ok (.if_icmp .eq 10, 3) := by decide +kernel
theorem dX10_make_44 : decode cX10_make 44 = .ok (.aload_n 0, 1) := by decide +kernel
theorem dX10_make_45 : decode cX10_make 45 = .ok (.iconst 1, 1) := by decide +kernel
theorem dX10_make_46 : decode cX10_make 46 = .ok (.iload_n 3, 1) := by decide +kernel
theorem dX10_make_47 : decode cX10_make 47 = .ok (.invokevirtual 243, 3) := by decide +kernel
theorem dX10_make_50 : decode cX10_make 50 = .ok (.ireturn, 1) := by decide +kernel
theorem dX10_make_51 : decode cX10_make 51 = .ok (.aload_n 0, 1) := by decide +kernel
theorem dX10_make_52 : decode cX10_make 52 = .ok (.iload_n 2, 1) := by decide +kernel
theorem dX10_make_53 : decode cX10_make 53 = .ok (.invokevirtual 246, 3) := by decide +kernel
theorem dX10_make_56 : decode cX10_make 56 = .ok (.istore_n 3, 1) := by decide +kernel
theorem dX10_make_57 : decode cX10_make 57 = .ok (.iload_n 3, 1) := by decide +kernel
theorem dX10_make_58 : decode cX10_make 58 = .ok (.iconst (-1), 1) := by decide +kernel
theorem dX10_make_59 : decode cX10_make 59 = .ok (.if_icmp .eq 10, 3) := by decide +kernel
theorem dX10_make_62 : decode cX10_make 62 = .ok (.aload_n 0, 1) := by decide +kernel
theorem dX10_make_63 : decode cX10_make 63 = .ok (.iconst 2, 1) := by decide +kernel
theorem dX10_make_64 : decode cX10_make 64 = .ok (.iload_n 3, 1) := by decide +kernel
theorem dX10_make_65 : decode cX10_make 65 = .ok (.invokevirtual 243, 3) := by decide +kernel
theorem dX10_make_68 : decode cX10_make 68 = .ok (.ireturn, 1) := by decide +kernel
theorem dX10_make_69 : decode cX10_make 69 = .ok (.aload_n 0, 1) := by decide +kernel
theorem dX10_make_70 : decode cX10_make 70 = .ok (.iload_n 2, 1) := by decide +kernel
theorem dX10_make_71 : decode cX10_make 71 = .ok (.invokevirtual 249, 3) := by decide +kernel
theorem dX10_make_74 : decode cX10_make 74 = .ok (.istore_n 3, 1) := by decide +kernel
theorem dX10_make_75 : decode cX10_make 75 = .ok (.iload_n 3, 1) := by decide +kernel
theorem dX10_make_76 : decode cX10_make 76 = .ok (.iconst (-1), 1) := by decide +kernel
theorem dX10_make_77 : decode cX10_make 77 = .ok (.if_icmp .eq 10, 3) := by decide +kernel
theorem dX10_make_80 : decode cX10_make 80 = .ok (.aload_n 0, 1) := by decide +kernel
theorem dX10_make_81 : decode cX10_make 81 = .ok (.iconst 3, 1) := by decide +kernel
theorem dX10_make_82 : decode cX10_make 82 = .ok (.iload_n 3, 1) := by decide +kernel
theorem dX10_make_83 : decode cX10_make 83 = .ok (.invokevirtual 243, 3) := by decide +kernel
theorem dX10_make_86 : decode cX10_make 86 = .ok (.ireturn, 1) := by decide +kernel
theorem dX10_make_87 : decode cX10_make 87 = .ok (.aload_n 0, 1) := by decide +kernel
theorem dX10_make_88 : decode cX10_make 88 = .ok (.iload_n 2, 1) := by decide +kernel
theorem dX10_make_89 : decode cX10_make 89 = .ok (.invokevirtual 252, 3) := by decide +kernel
theorem dX10_make_92 : decode cX10_make 92 = .ok (.ifCond .ne 10, 3) := by decide +kernel
theorem dX10_make_95 : decode cX10_make 95 = .ok (.aload_n 0, 1) := by decide +kernel
theorem dX10_make_96 : decode cX10_make 96 = .ok (.iconst 4, 1) := by decide +kernel
theorem dX10_make_97 : decode cX10_make 97 = .ok (.iconst 0, 1) := by decide +kernel
theorem dX10_make_98 : decode cX10_make 98 = .ok (.invokevirtual 243, 3) := by decide +kernel
theorem dX10_make_101 : decode cX10_make 101 = .ok (.ireturn, 1) := by decide +kernel
theorem dX10_make_102 : decode cX10_make 102 = .ok (.aload_n 0, 1) := by decide +kernel
theorem dX10_make_103 : decode cX10_make 103 = .ok (.getfield 72, 3) := by decide +kernel
theorem dX10_make_106 : decode cX10_make 106 = .ok (.iload_n 2, 1) := by decide +kernel
theorem dX10_make_107 : decode cX10_make 107 = .ok (.iconst (-1), 1) := by decide +kernel
theorem dX10_make_108 : decode cX10_make 108 = .ok (.iastore, 1) := by decide +kernel
theorem dX10_make_109 : decode cX10_make 109 = .ok (.aload_n 0, 1) := by decide +kernel
theorem dX10_make_110 : decode cX10_make 110 = .ok (.dup, 1) := by decide +kernel
theorem dX10_make_111 : decode cX10_make 111 = .ok (.getfield 237, 3) := by decide +kernel
theorem dX10_make_114 : decode cX10_make 114 = .ok (.iconst 1, 1) := by decide +kernel
theorem dX10_make_115 : decode cX10_make 115 = .ok (.iadd, 1) := by decide +kernel
theorem dX10_make_116 : decode cX10_make 116 = .ok (.putfield 237, 3) := by decide +kernel
theorem dX10_make_119 : decode cX10_make 119 = .ok (.iload_n 2, 1) := by decide +kernel
theorem dX10_make_120 : decode cX10_make 120 = .ok (.ireturn, 1) := by decide +kernel
theorem dX10_place_0 : decode cX10_place 0 = .ok (.aload_n 0, 1) := by decide +kernel
theorem dX10_place_1 : decode cX10_place 1 = .ok (.getfield 13, 3) := by decide +kernel
theorem dX10_place_4 : decode cX10_place 4 = .ok (.ireturn, 1) := by decide +kernel
theorem dX10_form_0 : decode cX10_form 0 = .ok (.iload_n 2, 1) := by decide +kernel
theorem dX10_form_1 : decode cX10_form 1 = .ok (.iconst 1, 1) := by decide +kernel
theorem dX10_form_2 : decode cX10_form 2 = .ok (.if_icmp .lt 17, 3) := by decide +kernel
theorem dX10_form_5 : decode cX10_form 5 = .ok (.aload_n 0, 1) := by decide +kernel
theorem dX10_form_6 : decode cX10_form 6 = .ok (.getfield 7, 3) := by decide +kernel
theorem dX10_form_9 : decode cX10_form 9 = .ok (.iconst 0, 1) := by decide +kernel
theorem dX10_form_10 : decode cX10_form 10 = .ok (.iaload, 1) := by decide +kernel
theorem dX10_form_11 : decode cX10_form 11 = .ok (.iconst 0, 1) := by decide +kernel
theorem dX10_form_12 : decode cX10_form 12 = .ok (.iconst 4, 1) := by decide +kernel
theorem dX10_form_13 : decode cX10_form 13 = .ok (.invokestatic 217, 3) := by decide +kernel
theorem dX10_form_16 : decode cX10_form 16 = .ok (.ifCond .ne 5, 3) := by decide +kernel
theorem dX10_form_19 : decode cX10_form 19 = .ok (.iconst 0, 1) := by decide +kernel
theorem dX10_form_20 : decode cX10_form 20 = .ok (.ireturn, 1) := by decide +kernel
theorem dX10_form_21 : decode cX10_form 21 = .ok (.iload_n 2, 1) := by decide +kernel
theorem dX10_form_22 : decode cX10_form 22 = .ok (.iconst 2, 1) := by decide +kernel
theorem dX10_form_23 : decode cX10_form 23 = .ok (.if_icmp .lt 23, 3) := by decide +kernel
theorem dX10_form_26 : decode cX10_form 26 = .ok (.aload_n 0, 1) := by decide +kernel
theorem dX10_form_27 : decode cX10_form 27 = .ok (.getfield 7, 3) := by decide +kernel
theorem dX10_form_30 : decode cX10_form 30 = .ok (.iconst 1, 1) := by decide +kernel
theorem dX10_form_31 : decode cX10_form 31 = .ok (.iaload, 1) := by decide +kernel
theorem dX10_form_32 : decode cX10_form 32 = .ok (.aload_n 0, 1) := by decide +kernel
theorem dX10_form_33 : decode cX10_form 33 = .ok (.getfield 7, 3) := by decide +kernel
theorem dX10_form_36 : decode cX10_form 36 = .ok (.iconst 0, 1) := by decide +kernel
theorem dX10_form_37 : decode cX10_form 37 = .ok (.iaload, 1) := by decide +kernel
theorem dX10_form_38 : decode cX10_form 38 = .ok (.bipush 12, 2) := by decide +kernel
theorem dX10_form_40 : decode cX10_form 40 = .ok (.invokestatic 217, 3) := by decide +kernel
theorem dX10_form_43 : decode cX10_form 43 = .ok (.ifCond .ne 5, 3) := by decide +kernel
theorem dX10_form_46 : decode cX10_form 46 = .ok (.iconst 1, 1) := by decide +kernel
theorem dX10_form_47 : decode cX10_form 47 = .ok (.ireturn, 1) := by decide +kernel
theorem dX10_form_48 : decode cX10_form 48 = .ok (.iload_n 2, 1) := by decide +kernel
theorem dX10_form_49 : decode cX10_form 49 = .ok (.iconst 4, 1) := by decide +kernel
theorem dX10_form_50 : decode cX10_form 50 = .ok (.if_icmp .ge 5, 3) := by decide +kernel
theorem dX10_form_53 : decode cX10_form 53 = .ok (.iload_n 2, 1) := by decide +kernel
theorem dX10_form_54 : decode cX10_form 54 = .ok (.ireturn, 1) := by decide +kernel
theorem dX10_form_55 : decode cX10_form 55 = .ok (.aload_n 0, 1) := by decide +kernel
theorem dX10_form_56 : decode cX10_form 56 = .ok (.getfield 17, 3) := by decide +kernel
theorem dX10_form_59 : decode cX10_form 59 = .ok (.iload_n 1, 1) := by decide +kernel
theorem dX10_form_60 : decode cX10_form 60 = .ok (.aload_n 0, 1) := by decide +kernel
theorem dX10_form_61 : decode cX10_form 61 = .ok (.getfield 7, 3) := by decide +kernel
theorem dX10_form_64 : decode cX10_form 64 = .ok (.iconst 0, 1) := by decide +kernel
theorem dX10_form_65 : decode cX10_form 65 = .ok (.iaload, 1) := by decide +kernel
theorem dX10_form_66 : decode cX10_form 66 = .ok (.iastore, 1) := by decide +kernel
theorem dX10_form_67 : decode cX10_form 67 = .ok (.aload_n 0, 1) := by decide +kernel
theorem dX10_form_68 : decode cX10_form 68 = .ok (.getfield 20, 3) := by decide +kernel
theorem dX10_form_71 : decode cX10_form 71 = .ok (.iload_n 1, 1) := by decide +kernel
theorem dX10_form_72 : decode cX10_form 72 = .ok (.aload_n 0, 1) := by decide +kernel
theorem dX10_form_73 : decode cX10_form 73 = .ok (.getfield 7, 3) := by decide +kernel
theorem dX10_form_76 : decode cX10_form 76 = .ok (.iconst 1, 1) := by decide +kernel
theorem dX10_form_77 : decode cX10_form 77 = .ok (.iaload, 1) := by decide +kernel
theorem dX10_form_78 : decode cX10_form 78 = .ok (.iastore, 1) := by decide +kernel
theorem dX10_form_79 : decode cX10_form 79 = .ok (.aload_n 0, 1) := by decide +kernel
theorem dX10_form_80 : decode cX10_form 80 = .ok (.getfield 23, 3) := by decide +kernel
theorem dX10_form_83 : decode cX10_form 83 = .ok (.iload_n 1, 1) := by decide +kernel
theorem dX10_form_84 : decode cX10_form 84 = .ok (.sipush 256, 3) := by decide +kernel
theorem dX10_form_87 : decode cX10_form 87 = .ok (.aload_n 0, 1) := by decide +kernel
theorem dX10_form_88 : decode cX10_form 88 = .ok (.getfield 7, 3) := by decide +kernel
theorem dX10_form_91 : decode cX10_form 91 = .ok (.iconst 2, 1) := by decide +kernel
theorem dX10_form_92 : decode cX10_form 92 = .ok (.iaload, 1) := by decide +kernel
theorem dX10_form_93 : decode cX10_form 93 = .ok (.imul, 1) := by decide +kernel
theorem dX10_form_94 : decode cX10_form 94 = .ok (.aload_n 0, 1) := by decide +kernel
theorem dX10_form_95 : decode cX10_form 95 = .ok (.getfield 7, 3) := by decide +kernel
theorem dX10_form_98 : decode cX10_form 98 = .ok (.iconst 3, 1) := by decide +kernel
theorem dX10_form_99 : decode cX10_form 99 = .ok (.iaload, 1) := by decide +kernel
theorem dX10_form_100 : decode cX10_form 100 = .ok (.iadd, 1) := by decide +kernel
theorem dX10_form_101 : decode cX10_form 101 = .ok (.iastore, 1) := by decide +kernel
theorem dX10_form_102 : decode cX10_form 102 = .ok (.aload_n 0, 1) := by decide +kernel
theorem dX10_form_103 : decode cX10_form 103 = .ok (.getfield 23, 3) := by decide +kernel
theorem dX10_form_106 : decode cX10_form 106 = .ok (.iload_n 1, 1) := by decide +kernel
theorem dX10_form_107 : decode cX10_form 107 = .ok (.iaload, 1) := by decide +kernel
theorem dX10_form_108 : decode cX10_form 108 = .ok (.iconst 1, 1) := by decide +kernel
theorem dX10_form_109 : decode cX10_form 109 = .ok (.sipush 400, 3) := by decide +kernel
theorem dX10_form_112 : decode cX10_form 112 = .ok (.invokestatic 217, 3) := by decide +kernel
theorem dX10_form_115 : decode cX10_form 115 = .ok (.ifCond .ne 5, 3) := by decide +kernel
theorem dX10_form_118 : decode cX10_form 118 = .ok (.iconst 2, 1) := by decide +kernel
theorem dX10_form_119 : decode cX10_form 119 = .ok (.ireturn, 1) := by decide +kernel
theorem dX10_form_120 : decode cX10_form 120 = .ok (.iconst 0, 1) := by decide +kernel
theorem dX10_form_121 : decode cX10_form 121 = .ok (.istore_n 3, 1) := by decide +kernel
theorem dX10_form_122 : decode cX10_form 122 = .ok (.iload_n 3, 1) := by decide +kernel
theorem dX10_form_123 : decode cX10_form 123 = .ok (.sipush 400, 3) := by decide +kernel
theorem dX10_form_126 : decode cX10_form 126 = .ok (.if_icmp .ge 63, 3) := by decide +kernel
theorem dX10_form_129 : decode cX10_form 129 = .ok (.aload_n 0, 1) := by decide +kernel
theorem dX10_form_130 : decode cX10_form 130 = .ok (.getfield 44, 3) := by decide +kernel
theorem dX10_form_133 : decode cX10_form 133 = .ok (.sipush 400, 3) := by decide +kernel
theorem dX10_form_136 : decode cX10_form 136 = .ok (.iload_n 1, 1) := by decide +kernel
theorem dX10_form_137 : decode cX10_form 137 = .ok (.imul, 1) := by decide +kernel
theorem dX10_form_138 : decode cX10_form 138 = .ok (.iload_n 3, 1) := by decide +kernel
theorem dX10_form_139 : decode cX10_form 139 = .ok (.iadd, 1) := by decide +kernel
theorem dX10_form_140 : decode cX10_form 140 = .ok (.iconst 0, 1) := by decide +kernel
theorem dX10_form_141 : decode cX10_form 141 = .ok (.bastore, 1) := by decide +kernel
theorem dX10_form_142 : decode cX10_form 142 = .ok (.aload_n 0, 1) := by decide +kernel
theorem dX10_form_143 : decode cX10_form 143 = .ok (.getfield 26, 3) := by decide +kernel
theorem dX10_form_146 : decode cX10_form 146 = .ok (.sipush 400, 3) := by decide +kernel
theorem dX10_form_149 : decode cX10_form 149 = .ok (.iload_n 1, 1) := by decide +kernel
theorem dX10_form_150 : decode cX10_form 150 = .ok (.imul, 1) := by decide +kernel
theorem dX10_form_151 : decode cX10_form 151 = .ok (.iload_n 3, 1) := by decide +kernel
theorem dX10_form_152 : decode cX10_form 152 = .ok (.iadd, 1) := by decide +kernel
theorem dX10_form_153 : decode cX10_form 153 = .ok (.iload_n 3, 1) := by decide +kernel
theorem dX10_form_154 : decode cX10_form 154 = .ok (.aload_n 0, 1) := by decide +kernel
theorem dX10_form_155 : decode cX10_form 155 = .ok (.getfield 23, 3) := by decide +kernel
theorem dX10_form_158 : decode cX10_form 158 = .ok (.iload_n 1, 1) := by decide +kernel
theorem dX10_form_159 : decode cX10_form 159 = .ok (.iaload, 1) := by decide +kernel
theorem dX10_form_160 : decode cX10_form 160 = .ok (.if_icmp .ge 21, 3) := by decide +kernel
theorem dX10_form_163 : decode cX10_form 163 = .ok (.iconst 4, 1) := by decide +kernel
theorem dX10_form_164 : decode cX10_form 164 = .ok (.iload_n 3, 1) := by decide +kernel
theorem dX10_form_165 : decode cX10_form 165 = .ok (.iadd, 1) := by decide +kernel
theorem dX10_form_166 : decode cX10_form 166 = .ok (.iload_n 2, 1) := by decide +kernel
theorem dX10_form_167 : decode cX10_form 167 = .ok (.if_icmp .ge 14, 3) := by decide +kernel
theorem dX10_form_170 : decode cX10_form 170 = .ok (.aload_n 0, 1) := by decide +kernel
theorem dX10_form_171 : decode cX10_form 171 = .ok (.getfield 7, 3) := by decide +kernel
theorem dX10_form_174 : decode cX10_form 174 = .ok (.iconst 4, 1) := by decide +kernel
theorem dX10_form_175 : decode cX10_form 175 = .ok (.iload_n 3, 1) := by decide +kernel
theorem dX10_form_176 : decode cX10_form 176 = .ok (.iadd, 1) := by decide +kernel
theorem dX10_form_177 : decode cX10_form 177 = .ok (.iaload, 1) := by decide +kernel
theorem dX10_form_178 : decode cX10_form 178 = .ok (.goto 4, 3) := by decide +kernel
theorem dX10_form_181 : decode cX10_form 181 = .ok (.iconst 0, 1) := by decide +kernel
theorem dX10_form_182 : decode cX10_form 182 = .ok (.iastore, 1) := by decide +kernel
theorem dX10_form_183 : decode cX10_form 183 = .ok (.iinc 3 1, 3) := by decide +kernel
theorem dX10_form_186 : decode cX10_form 186 = .ok (.goto (-64), 3) := by decide +kernel
theorem dX10_form_189 : decode cX10_form 189 = .ok (.iconst 0, 1) := by decide +kernel
theorem dX10_form_190 : decode cX10_form 190 = .ok (.istore_n 3, 1) := by decide +kernel
theorem dX10_form_191 : decode cX10_form 191 = .ok (.iload_n 3, 1) := by decide +kernel
theorem dX10_form_192 : decode cX10_form 192 = .ok (.aload_n 0, 1) := by decide +kernel
theorem dX10_form_193 : decode cX10_form 193 = .ok (.getfield 23, 3) := by decide +kernel
theorem dX10_form_196 : decode cX10_form 196 = .ok (.iload_n 1, 1) := by decide +kernel
theorem dX10_form_197 : decode cX10_form 197 = .ok (.iaload, 1) := by decide +kernel
theorem dX10_form_198 : decode cX10_form 198 = .ok (.if_icmp .ge 46, 3) := by decide +kernel
theorem dX10_form_201 : decode cX10_form 201 = .ok (.aload_n 0, 1) := by decide +kernel
theorem dX10_form_202 : decode cX10_form 202 = .ok (.iload_n 1, 1) := by decide +kernel
theorem dX10_form_203 : decode cX10_form 203 = .ok (.iload_n 3, 1) := by decide +kernel
theorem dX10_form_204 : decode cX10_form 204 = .ok (.iload_n 2, 1) := by decide +kernel
theorem dX10_form_205 : decode cX10_form 205 = .ok (.invokevirtual 255, 3) := by decide +kernel
theorem dX10_form_208 : decode cX10_form 208 = .ok (.istore 4, 2) := by decide +kernel
theorem dX10_form_210 : decode cX10_form 210 = .ok (.iload 4, 2) := by decide +kernel
theorem dX10_form_212 : decode cX10_form 212 = .ok (.iconst (-1), 1) := by decide +kernel
theorem dX10_form_213 : decode cX10_form 213 = .ok (.if_icmp .eq 6, 3) := by decide +kernel
theorem dX10_form_216 : decode cX10_form 216 = .ok (.iload 4, 2) := by decide +kernel
theorem dX10_form_218 : decode cX10_form 218 = .ok (.ireturn, 1) := by decide +kernel
theorem dX10_form_219 : decode cX10_form 219 = .ok (.aload_n 0, 1) := by decide +kernel
theorem dX10_form_220 : decode cX10_form 220 = .ok (.getfield 44, 3) := by decide +kernel
theorem dX10_form_223 : decode cX10_form 223 = .ok (.sipush 400, 3) := by decide +kernel
theorem dX10_form_226 : decode cX10_form 226 = .ok (.iload_n 1, 1) := by decide +kernel
theorem dX10_form_227 : decode cX10_form 227 = .ok (.imul, 1) := by decide +kernel
theorem dX10_form_228 : decode cX10_form 228 = .ok (.iload_n 3, 1) := by decide +kernel
theorem dX10_form_229 : decode cX10_form 229 = .ok (.iadd, 1) := by decide +kernel
theorem dX10_form_230 : decode cX10_form 230 = .ok (.iconst 1, 1) := by decide +kernel
theorem dX10_form_231 : decode cX10_form 231 = .ok (.bastore, 1) := by decide +kernel
theorem dX10_form_232 : decode cX10_form 232 = .ok (.iload_n 3, 1) := by decide +kernel
theorem dX10_form_233 : decode cX10_form 233 = .ok (.aload_n 0, 1) := by decide +kernel
theorem dX10_form_234 : decode cX10_form 234 = .ok (.iload_n 1, 1) := by decide +kernel
theorem dX10_form_235 : decode cX10_form 235 = .ok (.iload_n 3, 1) := by decide +kernel
theorem dX10_form_236 : decode cX10_form 236 = .ok (.invokevirtual 259, 3) := by decide +kernel
theorem dX10_form_239 : decode cX10_form 239 = .ok (.iadd, 1) := by decide +kernel
theorem dX10_form_240 : decode cX10_form 240 = .ok (.istore_n 3, 1) := by decide +kernel
theorem dX10_form_241 : decode cX10_form 241 = .ok (.goto (-50), 3) := by decide +kernel
theorem dX10_form_244 : decode cX10_form 244 = .ok (.aload_n 0, 1) := by decide +kernel
theorem dX10_form_245 : decode cX10_form 245 = .ok (.iload_n 1, 1) := by decide +kernel
theorem dX10_form_246 : decode cX10_form 246 = .ok (.iconst 4, 1) := by decide +kernel
theorem dX10_form_247 : decode cX10_form 247 = .ok (.iload_n 3, 1) := by decide +kernel
theorem dX10_form_248 : decode cX10_form 248 = .ok (.iadd, 1) := by decide +kernel
theorem dX10_form_249 : decode cX10_form 249 = .ok (.iload_n 2, 1) := by decide +kernel
theorem dX10_form_250 : decode cX10_form 250 = .ok (.invokevirtual 262, 3) := by decide +kernel
theorem dX10_form_253 : decode cX10_form 253 = .ok (.ireturn, 1) := by decide +kernel
theorem dX10_instruction_0 : decode cX10_instruction 0 = .ok (.iconst 4, 1) := by decide +kernel
theorem dX10_instruction_1 : decode cX10_instruction 1 = .ok (.iload_n 2, 1) := by decide +kernel
theorem dX10_instruction_2 : decode cX10_instruction 2 = .ok (.iadd, 1) := by decide +kernel
theorem dX10_instruction_3 : decode cX10_instruction 3 = .ok (.istore 4, 2) := by decide +kernel
theorem dX10_instruction_5 : decode cX10_instruction 5 = .ok (.iload 4, 2) := by decide +kernel
theorem dX10_instruction_7 : decode cX10_instruction 7 = .ok (.iload_n 3, 1) := by decide +kernel
theorem dX10_instruction_8 : decode cX10_instruction 8 = .ok (.if_icmp .lt 5, 3) := by decide +kernel
theorem dX10_instruction_11 : decode cX10_instruction 11 = .ok (.iload_n 3, 1) := by decide +kernel
theorem dX10_instruction_12 : decode cX10_instruction 12 = .ok (.ireturn, 1) := by decide +kernel
theorem dX10_instruction_13 : decode cX10_instruction 13 = .ok (.aload_n 0, 1) := by decide +kernel
theorem dX10_instruction_14 : decode cX10_instruction 14 = .ok (.getfield 7, 3) := by decide +kernel
theorem dX10_instruction_17 : decode cX10_instruction 17 = .ok (.iload 4, 2) := by decide +kernel
theorem dX10_instruction_19 : decode cX10_instruction 19 = .ok (.iaload, 1) := by decide +kernel
theorem dX10_instruction_20 : decode cX10_instruction 20 = .ok (.istore 5, 2) := by decide +kernel
theorem dX10_instruction_22 : decode cX10_instruction 22 = .ok (.iload 5, 2) := by decide +kernel
theorem dX10_instruction_24 : decode cX10_instruction 24 = .ok (.invokestatic 265, 3) := by decide +kernel
theorem dX10_instruction_27 : decode cX10_instruction 27 = .ok (.ifCond .eq 20, 3) := by decide +kernel
theorem dX10_instruction_30 : decode cX10_instruction 30 = .ok (.iload_n 2, 1) := by decide +kernel
theorem dX10_instruction_31 : decode cX10_instruction 31 = .ok (.iload 5, 2) := by decide +kernel
theorem dX10_instruction_33 : decode cX10_instruction 33 = .ok (.iconst (-1), 1) := by decide +kernel
theorem dX10_instruction_34 : decode cX10_instruction 34 = .ok (.invokestatic 222, 3) := by decide +kernel
theorem dX10_instruction_37 : decode cX10_instruction 37 = .ok (.iadd, 1) := by decide +kernel
theorem dX10_instruction_38 : decode cX10_instruction 38 = .ok (.aload_n 0, 1) := by decide +kernel
theorem dX10_instruction_39 : decode cX10_instruction 39 = .ok (.getfield 23, 3) := by decide +kernel
theorem dX10_instruction_42 : decode cX10_instruction 42 = .ok (.iload_n 1, 1) := by decide +kernel
theorem dX10_instruction_43 : decode cX10_instruction 43 = .ok (.iaload, 1) := by decide +kernel
theorem dX10_instruction_44 : decode cX10_instruction 44 = .ok (.if_icmp .le 6, 3) := by decide +kernel
theorem dX10_instruction_47 : decode cX10_instruction 47 = .ok (.iload 4, 2) := by decide +kernel
theorem dX10_instruction_49 : decode cX10_instruction 49 = .ok (.ireturn, 1) := by decide +kernel
theorem dX10_instruction_50 : decode cX10_instruction 50 = .ok (.iload 5, 2) := by decide +kernel
theorem dX10_instruction_52 : decode cX10_instruction 52 = .ok (.bipush 33, 2) := by decide +kernel
theorem dX10_instruction_54 : decode cX10_instruction 54 = .ok (.if_icmp .ne 36, 3) := by decide +kernel
theorem dX10_instruction_57 : decode cX10_instruction 57 = .ok (.iload 4, 2) := by decide +kernel
theorem dX10_instruction_59 : decode cX10_instruction 59 = .ok (.iconst 1, 1) := by decide +kernel
theorem dX10_instruction_60 : decode cX10_instruction 60 = .ok (.iadd, 1) := by decide +kernel
theorem dX10_instruction_61 : decode cX10_instruction 61 = .ok (.iload_n 3, 1) := by decide +kernel
theorem dX10_instruction_62 : decode cX10_instruction 62 = .ok (.if_icmp .lt 5, 3) := by decide +kernel
theorem dX10_instruction_65 : decode cX10_instruction 65 = .ok (.iload_n 3, 1) := by decide +kernel
theorem dX10_instruction_66 : decode cX10_instruction 66 = .ok (.ireturn, 1) := by decide +kernel
theorem dX10_instruction_67 : decode cX10_instruction 67 = .ok (.aload_n 0, 1) := by decide +kernel
theorem dX10_instruction_68 : decode cX10_instruction 68 = .ok (.getfield 7, 3) := by decide +kernel
theorem dX10_instruction_71 : decode cX10_instruction 71 = .ok (.iload 4, 2) := by decide +kernel
theorem dX10_instruction_73 : decode cX10_instruction 73 = .ok (.iconst 1, 1) := by decide +kernel
theorem dX10_instruction_74 : decode cX10_instruction 74 = .ok (.iadd, 1) := by decide +kernel
theorem dX10_instruction_75 : decode cX10_instruction 75 = .ok (.iaload, 1) := by decide +kernel
theorem dX10_instruction_76 : decode cX10_instruction 76 = .ok (.iconst 1, 1) := by decide +kernel
theorem dX10_instruction_77 : decode cX10_instruction 77 = .ok (.bipush 16, 2) := by decide +kernel
theorem dX10_instruction_79 : decode cX10_instruction 79 = .ok (.invokestatic 217, 3) := by decide +kernel
theorem dX10_instruction_82 : decode cX10_instruction 82 = .ok (.ifCond .ne 8, 3) := by decide +kernel
theorem dX10_instruction_85 : decode cX10_instruction 85 = .ok (.iload 4, 2) := by decide +kernel
theorem dX10_instruction_87 : decode cX10_instruction 87 = .ok (.iconst 1, 1) := by decide +kernel
theorem dX10_instruction_88 : decode cX10_instruction 88 = .ok (.iadd, 1) := by decide +kernel
theorem dX10_instruction_89 : decode cX10_instruction 89 = .ok (.ireturn, 1) := by decide +kernel
theorem dX10_instruction_90 : decode cX10_instruction 90 = .ok (.iload 5, 2) := by decide +kernel
theorem dX10_instruction_92 : decode cX10_instruction 92 = .ok (.iload 5, 2) := by decide +kernel
theorem dX10_instruction_94 : decode cX10_instruction 94 = .ok (.bipush 33, 2) := by decide +kernel
theorem dX10_instruction_96 : decode cX10_instruction 96 = .ok (.if_icmp .ne 15, 3) := by decide +kernel
theorem dX10_instruction_99 : decode cX10_instruction 99 = .ok (.aload_n 0, 1) := by decide +kernel
theorem dX10_instruction_100 : decode cX10_instruction 100 = .ok (.getfield 7, 3) := by decide +kernel
theorem dX10_instruction_103 : decode cX10_instruction 103 = .ok (.iload 4, 2) := by decide +kernel
theorem dX10_instruction_105 : decode cX10_instruction 105 = .ok (.iconst 1, 1) := by decide +kernel
theorem dX10_instruction_106 : decode cX10_instruction 106 = .ok (.iadd, 1) := by decide +kernel
theorem dX10_instruction_107 : decode cX10_instruction 107 = .ok (.iaload, 1) := by decide +kernel
theorem dX10_instruction_108 : decode cX10_instruction 108 = .ok (.goto 4, 3) := by decide +kernel
theorem dX10_instruction_111 : decode cX10_instruction 111 = .ok (.iconst 0, 1) := by decide +kernel
theorem dX10_instruction_112 : decode cX10_instruction 112 = .ok (.invokestatic 222, 3) := by decide +kernel
theorem dX10_instruction_115 : decode cX10_instruction 115 = .ok (.istore 6, 2) := by decide +kernel
theorem dX10_instruction_117 : decode cX10_instruction 117 = .ok (.iload_n 2, 1) := by decide +kernel
theorem dX10_instruction_118 : decode cX10_instruction 118 = .ok (.iload 6, 2) := by decide +kernel
theorem dX10_instruction_120 : decode cX10_instruction 120 = .ok (.iadd, 1) := by decide +kernel
theorem dX10_instruction_121 : decode cX10_instruction 121 = .ok (.aload_n 0, 1) := by decide +kernel
theorem dX10_instruction_122 : decode cX10_instruction 122 = .ok (.getfield 23, 3) := by decide +kernel
theorem dX10_instruction_125 : decode cX10_instruction 125 = .ok (.iload_n 1, 1) := by decide +kernel
theorem dX10_instruction_126 : decode cX10_instruction 126 = .ok (.iaload, 1) := by decide +kernel
theorem dX10_instruction_127 : decode cX10_instruction 127 = .ok (.if_icmp .le 6, 3) := by decide +kernel
theorem dX10_instruction_130 : decode cX10_instruction 130 = .ok (.iload 4, 2) := by decide +kernel
theorem dX10_instruction_132 : decode cX10_instruction 132 = .ok (.ireturn, 1) := by decide +kernel
theorem dX10_instruction_133 : decode cX10_instruction 133 = .ok (.iload 5, 2) := by decide +kernel
theorem dX10_instruction_135 : decode cX10_instruction 135 = .ok (.iconst 3, 1) := by decide +kernel
theorem dX10_instruction_136 : decode cX10_instruction 136 = .ok (.iconst 5, 1) := by decide +kernel
theorem dX10_instruction_137 : decode cX10_instruction 137 = .ok (.invokestatic 217, 3) := by decide +kernel
theorem dX10_instruction_140 : decode cX10_instruction 140 = .ok (.ifCond .eq 12, 3) := by decide +kernel
theorem dX10_instruction_143 : decode cX10_instruction 143 = .ok (.aload_n 0, 1) := by decide +kernel
theorem dX10_instruction_144 : decode cX10_instruction 144 = .ok (.getfield 20, 3) := by decide +kernel
theorem dX10_instruction_147 : decode cX10_instruction 147 = .ok (.iload_n 1, 1) := by decide +kernel
theorem dX10_instruction_148 : decode cX10_instruction 148 = .ok (.iaload, 1) := by decide +kernel
theorem dX10_instruction_149 : decode cX10_instruction 149 = .ok (.goto 41, 3) := by decide +kernel
theorem dX10_instruction_152 : decode cX10_instruction 152 = .ok (.iload 5, 2) := by decide +kernel
theorem dX10_instruction_154 : decode cX10_instruction 154 = .ok (.bipush 34, 2) := by decide +kernel
theorem dX10_instruction_156 : decode cX10_instruction 156 = .ok (.if_icmp .eq 10, 3) := by decide +kernel
theorem dX10_instruction_159 : decode cX10_instruction 159 = .ok (.iload 5, 2) := by decide +kernel
theorem dX10_instruction_161 : decode cX10_instruction 161 = .ok (.bipush 35, 2) := by decide +kernel
theorem dX10_instruction_163 : decode cX10_instruction 163 = .ok (.if_icmp .ne 8, 3) := by decide +kernel
theorem dX10_instruction_166 : decode cX10_instruction 166 = .ok (.bipush 8, 2) := by decide +kernel
theorem dX10_instruction_168 : decode cX10_instruction 168 = .ok (.goto 22, 3) := by decide +kernel
theorem dX10_instruction_171 : decode cX10_instruction 171 = .ok (.iload 5, 2) := by decide +kernel
theorem dX10_instruction_173 : decode cX10_instruction 173 = .ok (.bipush 40, 2) := by decide +kernel
theorem dX10_instruction_175 : decode cX10_instruction 175 = .ok (.if_icmp .ne 12, 3) := by decide +kernel
theorem dX10_instruction_178 : decode cX10_instruction 178 = .ok (.aload_n 0, 1) := by decide +kernel
theorem dX10_instruction_179 : decode cX10_instruction 179 = .ok (.getfield 237, 3) := by decide +kernel
theorem dX10_instruction_182 : decode cX10_instruction 182 = .ok (.iconst 1, 1) := by decide +kernel
theorem dX10_instruction_183 : decode cX10_instruction 183 = .ok (.iadd, 1) := by decide +kernel
theorem dX10_instruction_184 : decode cX10_instruction 184 = .ok (.goto 6, 3) := by decide +kernel
theorem dX10_instruction_187 : decode cX10_instruction 187 = .ok (.sipush 256, 3) := by decide +kernel
theorem dX10_instruction_190 : decode cX10_instruction 190 = .ok (.istore 7, 2) := by decide +kernel
theorem dX10_instruction_192 : decode cX10_instruction 192 = .ok (.iload 6, 2) := by decide +kernel
theorem dX10_instruction_194 : decode cX10_instruction 194 = .ok (.iconst 1, 1) := by decide +kernel
theorem dX10_instruction_195 : decode cX10_instruction 195 = .ok (.if_icmp .eq 32, 3) := by decide +kernel
theorem dX10_instruction_198 : decode cX10_instruction 198 = .ok (.iload 5, 2) := by decide +kernel
theorem dX10_instruction_200 : decode cX10_instruction 200 = .ok (.bipush 33, 2) := by decide +kernel
theorem dX10_instruction_202 : decode cX10_instruction 202 = .ok (.if_icmp .eq 25, 3) := by decide +kernel
theorem dX10_instruction_205 : decode cX10_instruction 205 = .ok (.iload 4, 2) := by decide +kernel
theorem dX10_instruction_207 : decode cX10_instruction 207 = .ok (.iconst 1, 1) := by decide +kernel
theorem dX10_instruction_208 : decode cX10_instruction 208 = .ok (.iadd, 1) := by decide +kernel
theorem dX10_instruction_209 : decode cX10_instruction 209 = .ok (.iload_n 3, 1) := by decide +kernel
theorem dX10_instruction_210 : decode cX10_instruction 210 = .ok (.if_icmp .ge 17, 3) := by decide +kernel
theorem dX10_instruction_213 : decode cX10_instruction 213 = .ok (.aload_n 0, 1) := by decide +kernel
theorem dX10_instruction_214 : decode cX10_instruction 214 = .ok (.getfield 7, 3) := by decide +kernel
theorem dX10_instruction_217 : decode cX10_instruction 217 = .ok (.iload 4, 2) := by decide +kernel
theorem dX10_instruction_219 : decode cX10_instruction 219 = .ok (.iconst 1, 1) := by decide +kernel
theorem dX10_instruction_220 : decode cX10_instruction 220 = .ok (.iadd, 1) := by decide +kernel
theorem dX10_instruction_221 : decode cX10_instruction 221 = .ok (.iaload, 1) := by decide +kernel
theorem dX10_instruction_222 : decode cX10_instruction 222 = .ok (.iload 7, 2) := by decide +kernel
theorem dX10_instruction_224 : decode cX10_instruction 224 = .ok (.if_icmp .ge 7, 3) := by decide +kernel
theorem dX10_instruction_227 : decode cX10_instruction 227 = .ok (.iconst 1, 1) := by decide +kernel
theorem dX10_instruction_228 : decode cX10_instruction 228 = .ok (.goto 4, 3) := by decide +kernel
theorem dX10_instruction_231 : decode cX10_instruction 231 = .ok (.iconst 0, 1) := by decide +kernel
theorem dX10_instruction_232 : decode cX10_instruction 232 = .ok (.istore 8, 2) := by decide +kernel
theorem dX10_instruction_234 : decode cX10_instruction 234 = .ok (.iload 8, 2) := by decide +kernel
theorem dX10_instruction_236 : decode cX10_instruction 236 = .ok (.ifCond .ne 10, 3) := by decide +kernel
theorem dX10_instruction_239 : decode cX10_instruction 239 = .ok (.iload 4, 2) := by decide +kernel
theorem dX10_instruction_241 : decode cX10_instruction 241 = .ok (.iconst 1, 1) := by decide +kernel
theorem dX10_instruction_242 : decode cX10_instruction 242 = .ok (.iadd, 1) := by decide +kernel
theorem dX10_instruction_243 : decode cX10_instruction 243 = .ok (.goto 17, 3) := by decide +kernel
theorem dX10_instruction_246 : decode cX10_instruction 246 = .ok (.iload 4, 2) := by decide +kernel
theorem dX10_instruction_248 : decode cX10_instruction 248 = .ok (.iload 6, 2) := by decide +kernel
theorem dX10_instruction_250 : decode cX10_instruction 250 = .ok (.iadd, 1) := by decide +kernel
theorem dX10_instruction_251 : decode cX10_instruction 251 = .ok (.iload_n 3, 1) := by decide +kernel
theorem dX10_instruction_252 : decode cX10_instruction 252 = .ok (.if_icmp .le 7, 3) := by decide +kernel
theorem dX10_instruction_255 : decode cX10_instruction 255 = .ok (.iload_n 3, 1) := by decide +kernel
theorem dX10_instruction_256 : decode cX10_instruction 256 = .ok (.goto 4, 3) := by decide +kernel
theorem dX10_instruction_259 : decode cX10_instruction 259 = .ok (.iconst (-1), 1) := by decide +kernel
theorem dX10_instruction_260 : decode cX10_instruction 260 = .ok (.ireturn, 1) := by decide +kernel
theorem dX10_rest_0 : decode cX10_rest 0 = .ok (.iload_n 2, 1) := by decide +kernel
theorem dX10_rest_1 : decode cX10_rest 1 = .ok (.iload_n 3, 1) := by decide +kernel
theorem dX10_rest_2 : decode cX10_rest 2 = .ok (.if_icmp .lt 5, 3) := by decide +kernel
theorem dX10_rest_5 : decode cX10_rest 5 = .ok (.iload_n 3, 1) := by decide +kernel
theorem dX10_rest_6 : decode cX10_rest 6 = .ok (.ireturn, 1) := by decide +kernel
theorem dX10_rest_7 : decode cX10_rest 7 = .ok (.aload_n 0, 1) := by decide +kernel
theorem dX10_rest_8 : decode cX10_rest 8 = .ok (.getfield 29, 3) := by decide +kernel
theorem dX10_rest_11 : decode cX10_rest 11 = .ok (.iload_n 1, 1) := by decide +kernel
theorem dX10_rest_12 : decode cX10_rest 12 = .ok (.aload_n 0, 1) := by decide +kernel
theorem dX10_rest_13 : decode cX10_rest 13 = .ok (.getfield 7, 3) := by decide +kernel
theorem dX10_rest_16 : decode cX10_rest 16 = .ok (.iload_n 2, 1) := by decide +kernel
theorem dX10_rest_17 : decode cX10_rest 17 = .ok (.iaload, 1) := by decide +kernel
theorem dX10_rest_18 : decode cX10_rest 18 = .ok (.iastore, 1) := by decide +kernel
theorem dX10_rest_19 : decode cX10_rest 19 = .ok (.aload_n 0, 1) := by decide +kernel
theorem dX10_rest_20 : decode cX10_rest 20 = .ok (.getfield 29, 3) := by decide +kernel
theorem dX10_rest_23 : decode cX10_rest 23 = .ok (.iload_n 1, 1) := by decide +kernel
theorem dX10_rest_24 : decode cX10_rest 24 = .ok (.iaload, 1) := by decide +kernel
theorem dX10_rest_25 : decode cX10_rest 25 = .ok (.bipush 8, 2) := by decide +kernel
theorem dX10_rest_27 : decode cX10_rest 27 = .ok (.if_icmp .le 5, 3) := by decide +kernel
theorem dX10_rest_30 : decode cX10_rest 30 = .ok (.iload_n 2, 1) := by decide +kernel
theorem dX10_rest_31 : decode cX10_rest 31 = .ok (.ireturn, 1) := by decide +kernel
theorem dX10_rest_32 : decode cX10_rest 32 = .ok (.iload_n 2, 1) := by decide +kernel
theorem dX10_rest_33 : decode cX10_rest 33 = .ok (.iconst 1, 1) := by decide +kernel
theorem dX10_rest_34 : decode cX10_rest 34 = .ok (.iadd, 1) := by decide +kernel
theorem dX10_rest_35 : decode cX10_rest 35 = .ok (.bipush 7, 2) := by decide +kernel
theorem dX10_rest_37 : decode cX10_rest 37 = .ok (.aload_n 0, 1) := by decide +kernel
theorem dX10_rest_38 : decode cX10_rest 38 = .ok (.getfield 29, 3) := by decide +kernel
theorem dX10_rest_41 : decode cX10_rest 41 = .ok (.iload_n 1, 1) := by decide +kernel
theorem dX10_rest_42 : decode cX10_rest 42 = .ok (.iaload, 1) := by decide +kernel
theorem dX10_rest_43 : decode cX10_rest 43 = .ok (.imul, 1) := by decide +kernel
theorem dX10_rest_44 : decode cX10_rest 44 = .ok (.iadd, 1) := by decide +kernel
theorem dX10_rest_45 : decode cX10_rest 45 = .ok (.istore 4, 2) := by decide +kernel
theorem dX10_rest_47 : decode cX10_rest 47 = .ok (.iload_n 3, 1) := by decide +kernel
theorem dX10_rest_48 : decode cX10_rest 48 = .ok (.iload 4, 2) := by decide +kernel
theorem dX10_rest_50 : decode cX10_rest 50 = .ok (.if_icmp .eq 16, 3) := by decide +kernel
theorem dX10_rest_53 : decode cX10_rest 53 = .ok (.iload_n 3, 1) := by decide +kernel
theorem dX10_rest_54 : decode cX10_rest 54 = .ok (.iload 4, 2) := by decide +kernel
theorem dX10_rest_56 : decode cX10_rest 56 = .ok (.if_icmp .ge 7, 3) := by decide +kernel
theorem dX10_rest_59 : decode cX10_rest 59 = .ok (.iload_n 3, 1) := by decide +kernel
theorem dX10_rest_60 : decode cX10_rest 60 = .ok (.goto 5, 3) := by decide +kernel
theorem dX10_rest_63 : decode cX10_rest 63 = .ok (.iload 4, 2) := by decide +kernel
theorem dX10_rest_65 : decode cX10_rest 65 = .ok (.ireturn, 1) := by decide +kernel
theorem dX10_rest_66 : decode cX10_rest 66 = .ok (.iconst 0, 1) := by decide +kernel
theorem dX10_rest_67 : decode cX10_rest 67 = .ok (.istore 5, 2) := by decide +kernel
theorem dX10_rest_69 : decode cX10_rest 69 = .ok (.iload 5, 2) := by decide +kernel
theorem dX10_rest_71 : decode cX10_rest 71 = .ok (.aload_n 0, 1) := by decide +kernel
theorem dX10_rest_72 : decode cX10_rest 72 = .ok (.getfield 29, 3) := by decide +kernel
theorem dX10_rest_75 : decode cX10_rest 75 = .ok (.iload_n 1, 1) := by decide +kernel
theorem dX10_rest_76 : decode cX10_rest 76 = .ok (.iaload, 1) := by decide +kernel
theorem dX10_rest_77 : decode cX10_rest 77 = .ok (.if_icmp .ge 145, 3) := by decide +kernel
theorem dX10_rest_80 : decode cX10_rest 80 = .ok (.iload_n 2, 1) := by decide +kernel
theorem dX10_rest_81 : decode cX10_rest 81 = .ok (.iconst 1, 1) := by decide +kernel
theorem dX10_rest_82 : decode cX10_rest 82 = .ok (.iadd, 1) := by decide +kernel
theorem dX10_rest_83 : decode cX10_rest 83 = .ok (.bipush 7, 2) := by decide +kernel
theorem dX10_rest_85 : decode cX10_rest 85 = .ok (.iload 5, 2) := by decide +kernel
theorem dX10_rest_87 : decode cX10_rest 87 = .ok (.imul, 1) := by decide +kernel
theorem dX10_rest_88 : decode cX10_rest 88 = .ok (.iadd, 1) := by decide +kernel
theorem dX10_rest_89 : decode cX10_rest 89 = .ok (.istore 6, 2) := by decide +kernel
theorem dX10_rest_91 : decode cX10_rest 91 = .ok (.aload_n 0, 1) := by decide +kernel
theorem dX10_rest_92 : decode cX10_rest 92 = .ok (.getfield 32, 3) := by decide +kernel
theorem dX10_rest_95 : decode cX10_rest 95 = .ok (.bipush 8, 2) := by decide +kernel
theorem dX10_rest_97 : decode cX10_rest 97 = .ok (.iload_n 1, 1) := by decide +kernel
theorem dX10_rest_98 : decode cX10_rest 98 = .ok (.imul, 1) := by decide +kernel
theorem dX10_rest_99 : decode cX10_rest 99 = .ok (.iload 5, 2) := by decide +kernel
theorem dX10_rest_101 : decode cX10_rest 101 = .ok (.iadd, 1) := by decide +kernel
theorem dX10_rest_102 : decode cX10_rest 102 = .ok (.sipush 256, 3) := by decide +kernel
theorem dX10_rest_105 : decode cX10_rest 105 = .ok (.aload_n 0, 1) := by decide +kernel
theorem dX10_rest_106 : decode cX10_rest 106 = .ok (.getfield 7, 3) := by decide +kernel
theorem dX10_rest_109 : decode cX10_rest 109 = .ok (.iload 6, 2) := by decide +kernel
theorem dX10_rest_111 : decode cX10_rest 111 = .ok (.iaload, 1) := by decide +kernel
theorem dX10_rest_112 : decode cX10_rest 112 = .ok (.imul, 1) := by decide +kernel
theorem dX10_rest_113 : decode cX10_rest 113 = .ok (.aload_n 0, 1) := by decide +kernel
theorem dX10_rest_114 : decode cX10_rest 114 = .ok (.getfield 7, 3) := by decide +kernel
theorem dX10_rest_117 : decode cX10_rest 117 = .ok (.iload 6, 2) := by decide +kernel
theorem dX10_rest_119 : decode cX10_rest 119 = .ok (.iconst 1, 1) := by decide +kernel
theorem dX10_rest_120 : decode cX10_rest 120 = .ok (.iadd, 1) := by decide +kernel
theorem dX10_rest_121 : decode cX10_rest 121 = .ok (.iaload, 1) := by decide +kernel
theorem dX10_rest_122 : decode cX10_rest 122 = .ok (.iadd, 1) := by decide +kernel
theorem dX10_rest_123 : decode cX10_rest 123 = .ok (.iastore, 1) := by decide +kernel
theorem dX10_rest_124 : decode cX10_rest 124 = .ok (.aload_n 0, 1) := by decide +kernel
theorem dX10_rest_125 : decode cX10_rest 125 = .ok (.getfield 35, 3) := by decide +kernel
theorem dX10_rest_128 : decode cX10_rest 128 = .ok (.bipush 8, 2) := by decide +kernel
theorem dX10_rest_130 : decode cX10_rest 130 = .ok (.iload_n 1, 1) := by decide +kernel
theorem dX10_rest_131 : decode cX10_rest 131 = .ok (.imul, 1) := by decide +kernel
theorem dX10_rest_132 : decode cX10_rest 132 = .ok (.iload 5, 2) := by decide +kernel
theorem dX10_rest_134 : decode cX10_rest 134 = .ok (.iadd, 1) := by decide +kernel
theorem dX10_rest_135 : decode cX10_rest 135 = .ok (.sipush 256, 3) := by decide +kernel
theorem dX10_rest_138 : decode cX10_rest 138 = .ok (.aload_n 0, 1) := by decide +kernel
theorem dX10_rest_139 : decode cX10_rest 139 = .ok (.getfield 7, 3) := by decide +kernel
theorem dX10_rest_142 : decode cX10_rest 142 = .ok (.iload 6, 2) := by decide +kernel
theorem dX10_rest_144 : decode cX10_rest 144 = .ok (.iconst 2, 1) := by decide +kernel
theorem dX10_rest_145 : decode cX10_rest 145 = .ok (.iadd, 1) := by decide +kernel
theorem dX10_rest_146 : decode cX10_rest 146 = .ok (.iaload, 1) := by decide +kernel
theorem dX10_rest_147 : decode cX10_rest 147 = .ok (.imul, 1) := by decide +kernel
theorem dX10_rest_148 : decode cX10_rest 148 = .ok (.aload_n 0, 1) := by decide +kernel
theorem dX10_rest_149 : decode cX10_rest 149 = .ok (.getfield 7, 3) := by decide +kernel
theorem dX10_rest_152 : decode cX10_rest 152 = .ok (.iload 6, 2) := by decide +kernel
theorem dX10_rest_154 : decode cX10_rest 154 = .ok (.iconst 3, 1) := by decide +kernel
theorem dX10_rest_155 : decode cX10_rest 155 = .ok (.iadd, 1) := by decide +kernel
theorem dX10_rest_156 : decode cX10_rest 156 = .ok (.iaload, 1) := by decide +kernel
theorem dX10_rest_157 : decode cX10_rest 157 = .ok (.iadd, 1) := by decide +kernel
theorem dX10_rest_158 : decode cX10_rest 158 = .ok (.iastore, 1) := by decide +kernel
theorem dX10_rest_159 : decode cX10_rest 159 = .ok (.aload_n 0, 1) := by decide +kernel
theorem dX10_rest_160 : decode cX10_rest 160 = .ok (.getfield 38, 3) := by decide +kernel
theorem dX10_rest_163 : decode cX10_rest 163 = .ok (.bipush 8, 2) := by decide +kernel
theorem dX10_rest_165 : decode cX10_rest 165 = .ok (.iload_n 1, 1) := by decide +kernel
theorem dX10_rest_166 : decode cX10_rest 166 = .ok (.imul, 1) := by decide +kernel
theorem dX10_rest_167 : decode cX10_rest 167 = .ok (.iload 5, 2) := by decide +kernel
theorem dX10_rest_169 : decode cX10_rest 169 = .ok (.iadd, 1) := by decide +kernel
theorem dX10_rest_170 : decode cX10_rest 170 = .ok (.sipush 256, 3) := by decide +kernel
theorem dX10_rest_173 : decode cX10_rest 173 = .ok (.aload_n 0, 1) := by decide +kernel
theorem dX10_rest_174 : decode cX10_rest 174 = .ok (.getfield 7, 3) := by decide +kernel
theorem dX10_rest_177 : decode cX10_rest 177 = .ok (.iload 6, 2) := by decide +kernel
theorem dX10_rest_179 : decode cX10_rest 179 = .ok (.iconst 4, 1) := by decide +kernel
theorem dX10_rest_180 : decode cX10_rest 180 = .ok (.iadd, 1) := by decide +kernel
theorem dX10_rest_181 : decode cX10_rest 181 = .ok (.iaload, 1) := by decide +kernel
theorem dX10_rest_182 : decode cX10_rest 182 = .ok (.imul, 1) := by decide +kernel
theorem dX10_rest_183 : decode cX10_rest 183 = .ok (.aload_n 0, 1) := by decide +kernel
theorem dX10_rest_184 : decode cX10_rest 184 = .ok (.getfield 7, 3) := by decide +kernel
theorem dX10_rest_187 : decode cX10_rest 187 = .ok (.iload 6, 2) := by decide +kernel
theorem dX10_rest_189 : decode cX10_rest 189 = .ok (.iconst 5, 1) := by decide +kernel
theorem dX10_rest_190 : decode cX10_rest 190 = .ok (.iadd, 1) := by decide +kernel
theorem dX10_rest_191 : decode cX10_rest 191 = .ok (.iaload, 1) := by decide +kernel
theorem dX10_rest_192 : decode cX10_rest 192 = .ok (.iadd, 1) := by decide +kernel
theorem dX10_rest_193 : decode cX10_rest 193 = .ok (.iastore, 1) := by decide +kernel
theorem dX10_rest_194 : decode cX10_rest 194 = .ok (.aload_n 0, 1) := by decide +kernel
theorem dX10_rest_195 : decode cX10_rest 195 = .ok (.getfield 41, 3) := by decide +kernel
theorem dX10_rest_198 : decode cX10_rest 198 = .ok (.bipush 8, 2) := by decide +kernel
theorem dX10_rest_200 : decode cX10_rest 200 = .ok (.iload_n 1, 1) := by decide +kernel
theorem dX10_rest_201 : decode cX10_rest 201 = .ok (.imul, 1) := by decide +kernel
theorem dX10_rest_202 : decode cX10_rest 202 = .ok (.iload 5, 2) := by decide +kernel
theorem dX10_rest_204 : decode cX10_rest 204 = .ok (.iadd, 1) := by decide +kernel
theorem dX10_rest_205 : decode cX10_rest 205 = .ok (.aload_n 0, 1) := by decide +kernel
theorem dX10_rest_206 : decode cX10_rest 206 = .ok (.getfield 7, 3) := by decide +kernel
theorem dX10_rest_209 : decode cX10_rest 209 = .ok (.iload 6, 2) := by decide +kernel
theorem dX10_rest_211 : decode cX10_rest 211 = .ok (.bipush 6, 2) := by decide +kernel
theorem dX10_rest_213 : decode cX10_rest 213 = .ok (.iadd, 1) := by decide +kernel
theorem dX10_rest_214 : decode cX10_rest 214 = .ok (.iaload, 1) := by decide +kernel
theorem dX10_rest_215 : decode cX10_rest 215 = .ok (.iastore, 1) := by decide +kernel
theorem dX10_rest_216 : decode cX10_rest 216 = .ok (.iinc 5 1, 3) := by decide +kernel
theorem dX10_rest_219 : decode cX10_rest 219 = .ok (.goto (-150), 3) := by decide +kernel
theorem dX10_rest_222 : decode cX10_rest 222 = .ok (.iconst (-1), 1) := by decide +kernel
theorem dX10_rest_223 : decode cX10_rest 223 = .ok (.ireturn, 1) := by decide +kernel
theorem dX10_isBegin_0 : decode cX10_isBegin 0 = .ok (.iload_n 2, 1) := by decide +kernel
theorem dX10_isBegin_1 : decode cX10_isBegin 1 = .ok (.iconst 0, 1) := by decide +kernel
theorem dX10_isBegin_2 : decode cX10_isBegin 2 = .ok (.aload_n 0, 1) := by decide +kernel
theorem dX10_isBegin_3 : decode cX10_isBegin 3 = .ok (.getfield 23, 3) := by decide +kernel
theorem dX10_isBegin_6 : decode cX10_isBegin 6 = .ok (.iload_n 1, 1) := by decide +kernel
theorem dX10_isBegin_7 : decode cX10_isBegin 7 = .ok (.iaload, 1) := by decide +kernel
theorem dX10_isBegin_8 : decode cX10_isBegin 8 = .ok (.iconst 1, 1) := by decide +kernel
theorem dX10_isBegin_9 : decode cX10_isBegin 9 = .ok (.isub, 1) := by decide +kernel
theorem dX10_isBegin_10 : decode cX10_isBegin 10 = .ok (.invokestatic 217, 3) := by decide +kernel
theorem dX10_isBegin_13 : decode cX10_isBegin 13 = .ok (.ifCond .eq 22, 3) := by decide +kernel
theorem dX10_isBegin_16 : decode cX10_isBegin 16 = .ok (.aload_n 0, 1) := by decide +kernel
theorem dX10_isBegin_17 : decode cX10_isBegin 17 = .ok (.getfield 44, 3) := by decide +kernel
theorem dX10_isBegin_20 : decode cX10_isBegin 20 = .ok (.sipush 400, 3) := by decide +kernel
theorem dX10_isBegin_23 : decode cX10_isBegin 23 = .ok (.iload_n 1, 1) := by decide +kernel
theorem dX10_isBegin_24 : decode cX10_isBegin 24 = .ok (.imul, 1) := by decide +kernel
theorem dX10_isBegin_25 : decode cX10_isBegin 25 = .ok (.iload_n 2, 1) := by decide +kernel
theorem dX10_isBegin_26 : decode cX10_isBegin 26 = .ok (.iadd, 1) := by decide +kernel
theorem dX10_isBegin_27 : decode cX10_isBegin 27 = .ok (.baload, 1) := by decide +kernel
theorem dX10_isBegin_28 : decode cX10_isBegin 28 = .ok (.ifCond .eq 7, 3) := by decide +kernel
theorem dX10_isBegin_31 : decode cX10_isBegin 31 = .ok (.iconst 1, 1) := by decide +kernel
theorem dX10_isBegin_32 : decode cX10_isBegin 32 = .ok (.goto 4, 3) := by decide +kernel
theorem dX10_isBegin_35 : decode cX10_isBegin 35 = .ok (.iconst 0, 1) := by decide +kernel
theorem dX10_isBegin_36 : decode cX10_isBegin 36 = .ok (.ireturn, 1) := by decide +kernel
theorem dX10_wrongJump_0 : decode cX10_wrongJump 0 = .ok (.iconst 0, 1) := by decide +kernel
theorem dX10_wrongJump_1 : decode cX10_wrongJump 1 = .ok (.istore_n 2, 1) := by decide +kernel
theorem dX10_wrongJump_2 : decode cX10_wrongJump 2 = .ok (.iload_n 2, 1) := by decide +kernel
theorem dX10_wrongJump_3 : decode cX10_wrongJump 3 = .ok (.aload_n 0, 1) := by decide +kernel
theorem dX10_wrongJump_4 : decode cX10_wrongJump 4 = .ok (.getfield 23, 3) := by decide +kernel
theorem dX10_wrongJump_7 : decode cX10_wrongJump 7 = .ok (.iload_n 1, 1) := by decide +kernel
theorem dX10_wrongJump_8 : decode cX10_wrongJump 8 = .ok (.iaload, 1) := by decide +kernel
theorem dX10_wrongJump_9 : decode cX10_wrongJump 9 = .ok (.if_icmp .ge 61, 3) := by decide +kernel
theorem dX10_wrongJump_12 : decode cX10_wrongJump 12 = .ok (.iconst 0, 1) := by decide +kernel
theorem dX10_wrongJump_13 : decode cX10_wrongJump 13 = .ok (.istore_n 3, 1) := by decide +kernel
theorem dX10_wrongJump_14 : decode cX10_wrongJump 14 = .ok (.aload_n 0, 1) := by decide +kernel
theorem dX10_wrongJump_15 : decode cX10_wrongJump 15 = .ok (.getfield 44, 3) := by decide +kernel
theorem dX10_wrongJump_18 : decode cX10_wrongJump 18 = .ok (.sipush 400, 3) := by decide +kernel
theorem dX10_wrongJump_21 : decode cX10_wrongJump 21 = .ok (.iload_n 1, 1) := by decide +kernel
theorem dX10_wrongJump_22 : decode cX10_wrongJump 22 = .ok (.imul, 1) := by decide +kernel
theorem dX10_wrongJump_23 : decode cX10_wrongJump 23 = .ok (.iload_n 2, 1) := by decide +kernel
theorem dX10_wrongJump_24 : decode cX10_wrongJump 24 = .ok (.iadd, 1) := by decide +kernel
theorem dX10_wrongJump_25 : decode cX10_wrongJump 25 = .ok (.baload, 1) := by decide +kernel
theorem dX10_wrongJump_26 : decode cX10_wrongJump 26 = .ok (.ifCond .eq 38, 3) := by decide +kernel
theorem dX10_wrongJump_29 : decode cX10_wrongJump 29 = .ok (.iload_n 3, 1) := by decide +kernel
theorem dX10_wrongJump_30 : decode cX10_wrongJump 30 = .ok (.aload_n 0, 1) := by decide +kernel
theorem dX10_wrongJump_31 : decode cX10_wrongJump 31 = .ok (.iload_n 1, 1) := by decide +kernel
theorem dX10_wrongJump_32 : decode cX10_wrongJump 32 = .ok (.iload_n 2, 1) := by decide +kernel
theorem dX10_wrongJump_33 : decode cX10_wrongJump 33 = .ok (.invokevirtual 268, 3) := by decide +kernel
theorem dX10_wrongJump_36 : decode cX10_wrongJump 36 = .ok (.if_icmp .ge 28, 3) := by decide +kernel
theorem dX10_wrongJump_39 : decode cX10_wrongJump 39 = .ok (.aload_n 0, 1) := by decide +kernel
theorem dX10_wrongJump_40 : decode cX10_wrongJump 40 = .ok (.iload_n 1, 1) := by decide +kernel
theorem dX10_wrongJump_41 : decode cX10_wrongJump 41 = .ok (.aload_n 0, 1) := by decide +kernel
theorem dX10_wrongJump_42 : decode cX10_wrongJump 42 = .ok (.iload_n 1, 1) := by decide +kernel
theorem dX10_wrongJump_43 : decode cX10_wrongJump 43 = .ok (.iload_n 2, 1) := by decide +kernel
theorem dX10_wrongJump_44 : decode cX10_wrongJump 44 = .ok (.iload_n 3, 1) := by decide +kernel
theorem dX10_wrongJump_45 : decode cX10_wrongJump 45 = .ok (.invokevirtual 271, 3) := by decide +kernel
theorem dX10_wrongJump_48 : decode cX10_wrongJump 48 = .ok (.invokevirtual 274, 3) := by decide +kernel
theorem dX10_wrongJump_51 : decode cX10_wrongJump 51 = .ok (.ifCond .ne 7, 3) := by decide +kernel
theorem dX10_wrongJump_54 : decode cX10_wrongJump 54 = .ok (.iconst 4, 1) := by decide +kernel
theorem dX10_wrongJump_55 : decode cX10_wrongJump 55 = .ok (.iload_n 2, 1) := by decide +kernel
theorem dX10_wrongJump_56 : decode cX10_wrongJump 56 = .ok (.iadd, 1) := by decide +kernel
theorem dX10_wrongJump_57 : decode cX10_wrongJump 57 = .ok (.ireturn, 1) := by decide +kernel
theorem dX10_wrongJump_58 : decode cX10_wrongJump 58 = .ok (.iinc 3 1, 3) := by decide +kernel
theorem dX10_wrongJump_61 : decode cX10_wrongJump 61 = .ok (.goto (-47), 3) := by decide +kernel
theorem dX10_wrongJump_64 : decode cX10_wrongJump 64 = .ok (.iinc 2 1, 3) := by decide +kernel
theorem dX10_wrongJump_67 : decode cX10_wrongJump 67 = .ok (.goto (-65), 3) := by decide +kernel
theorem dX10_wrongJump_70 : decode cX10_wrongJump 70 = .ok (.iconst (-1), 1) := by decide +kernel
theorem dX10_wrongJump_71 : decode cX10_wrongJump 71 = .ok (.ireturn, 1) := by decide +kernel
theorem dX10_wrongHandler_0 : decode cX10_wrongHandler 0 = .ok (.iconst 0, 1) := by decide +kernel
theorem dX10_wrongHandler_1 : decode cX10_wrongHandler 1 = .ok (.istore_n 2, 1) := by decide +kernel
theorem dX10_wrongHandler_2 : decode cX10_wrongHandler 2 = .ok (.iload_n 2, 1) := by decide +kernel
theorem dX10_wrongHandler_3 : decode cX10_wrongHandler 3 = .ok (.aload_n 0, 1) := by decide +kernel
theorem dX10_wrongHandler_4 : decode cX10_wrongHandler 4 = .ok (.getfield 29, 3) := by decide +kernel
theorem dX10_wrongHandler_7 : decode cX10_wrongHandler 7 = .ok (.iload_n 1, 1) := by decide +kernel
theorem dX10_wrongHandler_8 : decode cX10_wrongHandler 8 = .ok (.iaload, 1) := by decide +kernel
theorem dX10_wrongHandler_9 : decode cX10_wrongHandler 9 = .ok (.if_icmp .ge 116, 3) := by decide +kernel
theorem dX10_wrongHandler_12 : decode cX10_wrongHandler 12 = .ok (.bipush 8, 2) := by decide +kernel
theorem dX10_wrongHandler_14 : decode cX10_wrongHandler 14 = .ok (.iload_n 1, 1) := by decide +kernel
theorem dX10_wrongHandler_15 : decode cX10_wrongHandler 15 = .ok (.imul, 1) := by decide +kernel
theorem dX10_wrongHandler_16 : decode cX10_wrongHandler 16 = .ok (.iload_n 2, 1) := by decide +kernel
theorem dX10_wrongHandler_17 : decode cX10_wrongHandler 17 = .ok (.iadd, 1) := by decide +kernel
theorem dX10_wrongHandler_18 : decode cX10_wrongHandler 18 = .ok (.istore_n 3, 1) := by decide +kernel
theorem dX10_wrongHandler_19 : decode cX10_wrongHandler 19 = .ok (.aload_n 0, 1) := by decide +kernel
theorem dX10_wrongHandler_20 : decode cX10_wrongHandler 20 = .ok (.iload_n 1, 1) := by decide +kernel
theorem dX10_wrongHandler_21 : decode cX10_wrongHandler 21 = .ok (.aload_n 0, 1) := by decide +kernel
theorem dX10_wrongHandler_22 : decode cX10_wrongHandler 22 = .ok (.getfield 32, 3) := by decide +kernel
theorem dX10_wrongHandler_25 : decode cX10_wrongHandler 25 = .ok (.iload_n 3, 1) := by decide +kernel
theorem dX10_wrongHandler_26 : decode cX10_wrongHandler 26 = .ok (.iaload, 1) := by decide +kernel
theorem dX10_wrongHandler_27 : decode cX10_wrongHandler 27 = .ok (.invokevirtual 274, 3) := by decide +kernel
theorem dX10_wrongHandler_30 : decode cX10_wrongHandler 30 = .ok (.ifCond .eq 65, 3) := by decide +kernel
theorem dX10_wrongHandler_33 : decode cX10_wrongHandler 33 = .ok (.aload_n 0, 1) := by decide +kernel
theorem dX10_wrongHandler_34 : decode cX10_wrongHandler 34 = .ok (.iload_n 1, 1) := by decide +kernel
theorem dX10_wrongHandler_35 : decode cX10_wrongHandler 35 = .ok (.aload_n 0, 1) := by decide +kernel
theorem dX10_wrongHandler_36 : decode cX10_wrongHandler 36 = .ok (.getfield 38, 3) := by decide +kernel
theorem dX10_wrongHandler_39 : decode cX10_wrongHandler 39 = .ok (.iload_n 3, 1) := by decide +kernel
theorem dX10_wrongHandler_40 : decode cX10_wrongHandler 40 = .ok (.iaload, 1) := by decide +kernel
theorem dX10_wrongHandler_41 : decode cX10_wrongHandler 41 = .ok (.invokevirtual 274, 3) := by decide +kernel
theorem dX10_wrongHandler_44 : decode cX10_wrongHandler 44 = .ok (.ifCond .eq 51, 3) := by decide +kernel
theorem dX10_wrongHandler_47 : decode cX10_wrongHandler 47 = .ok (.aload_n 0, 1) := by decide +kernel
theorem dX10_wrongHandler_48 : decode cX10_wrongHandler 48 = .ok (.getfield 35, 3) := by decide +kernel
theorem dX10_wrongHandler_51 : decode cX10_wrongHandler 51 = .ok (.iload_n 3, 1) := by decide +kernel
theorem dX10_wrongHandler_52 : decode cX10_wrongHandler 52 = .ok (.iaload, 1) := by decide +kernel
theorem dX10_wrongHandler_53 : decode cX10_wrongHandler 53 = .ok (.aload_n 0, 1) := by decide +kernel
theorem dX10_wrongHandler_54 : decode cX10_wrongHandler 54 = .ok (.getfield 23, 3) := by decide +kernel
theorem dX10_wrongHandler_57 : decode cX10_wrongHandler 57 = .ok (.iload_n 1, 1) := by decide +kernel
theorem dX10_wrongHandler_58 : decode cX10_wrongHandler 58 = .ok (.iaload, 1) := by decide +kernel
theorem dX10_wrongHandler_59 : decode cX10_wrongHandler 59 = .ok (.if_icmp .eq 17, 3) := by decide +kernel
theorem dX10_wrongHandler_62 : decode cX10_wrongHandler 62 = .ok (.aload_n 0, 1) := by decide +kernel
theorem dX10_wrongHandler_63 : decode cX10_wrongHandler 63 = .ok (.iload_n 1, 1) := by decide +kernel
theorem dX10_wrongHandler_64 : decode cX10_wrongHandler 64 = .ok (.aload_n 0, 1) := by decide +kernel
theorem dX10_wrongHandler_65 : decode cX10_wrongHandler 65 = .ok (.getfield 35, 3) := by decide +kernel
theorem dX10_wrongHandler_68 : decode cX10_wrongHandler 68 = .ok (.iload_n 3, 1) := by decide +kernel
theorem dX10_wrongHandler_69 : decode cX10_wrongHandler 69 = .ok (.iaload, 1) := by decide +kernel
theorem dX10_wrongHandler_70 : decode cX10_wrongHandler 70 = .ok (.invokevirtual 274, 3) := by decide +kernel
theorem dX10_wrongHandler_73 : decode cX10_wrongHandler 73 = .ok (.ifCond .eq 22, 3) := by decide +kernel
theorem dX10_wrongHandler_76 : decode cX10_wrongHandler 76 = .ok (.aload_n 0, 1) := by decide +kernel
theorem dX10_wrongHandler_77 : decode cX10_wrongHandler 77 = .ok (.getfield 32, 3) := by decide +kernel
theorem dX10_wrongHandler_80 : decode cX10_wrongHandler 80 = .ok (.iload_n 3, 1) := by decide +kernel
theorem dX10_wrongHandler_81 : decode cX10_wrongHandler 81 = .ok (.iaload, 1) := by decide +kernel
theorem dX10_wrongHandler_82 : decode cX10_wrongHandler 82 = .ok (.aload_n 0, 1) := by decide +kernel
theorem dX10_wrongHandler_83 : decode cX10_wrongHandler 83 = .ok (.getfield 35, 3) := by decide +kernel
theorem dX10_wrongHandler_86 : decode cX10_wrongHandler 86 = .ok (.iload_n 3, 1) := by decide +kernel
theorem dX10_wrongHandler_87 : decode cX10_wrongHandler 87 = .ok (.iaload, 1) := by decide +kernel
theorem dX10_wrongHandler_88 : decode cX10_wrongHandler 88 = .ok (.if_icmp .ge 7, 3) := by decide +kernel
theorem dX10_wrongHandler_91 : decode cX10_wrongHandler 91 = .ok (.iconst 1, 1) := by decide +kernel
theorem dX10_wrongHandler_92 : decode cX10_wrongHandler 92 = .ok (.goto 4, 3) := by decide +kernel
theorem dX10_wrongHandler_95 : decode cX10_wrongHandler 95 = .ok (.iconst 0, 1) := by decide +kernel
theorem dX10_wrongHandler_96 : decode cX10_wrongHandler 96 = .ok (.istore 4, 2) := by decide +kernel
theorem dX10_wrongHandler_98 : decode cX10_wrongHandler 98 = .ok (.iload 4, 2) := by decide +kernel
theorem dX10_wrongHandler_100 : decode cX10_wrongHandler 100 = .ok (.ifCond .ne 19, 3) := by decide +kernel
theorem dX10_wrongHandler_103 : decode cX10_wrongHandler 103 = .ok (.iconst 4, 1) := by decide +kernel
theorem dX10_wrongHandler_104 : decode cX10_wrongHandler 104 = .ok (.aload_n 0, 1) := by decide +kernel
theorem dX10_wrongHandler_105 : decode cX10_wrongHandler 105 = .ok (.getfield 23, 3) := by decide +kernel
theorem dX10_wrongHandler_108 : decode cX10_wrongHandler 108 = .ok (.iload_n 1, 1) := by decide +kernel
theorem dX10_wrongHandler_109 : decode cX10_wrongHandler 109 = .ok (.iaload, 1) := by decide +kernel
theorem dX10_wrongHandler_110 : decode cX10_wrongHandler 110 = .ok (.iadd, 1) := by decide +kernel
theorem dX10_wrongHandler_111 : decode cX10_wrongHandler 111 = .ok (.iconst 1, 1) := by decide +kernel
theorem dX10_wrongHandler_112 : decode cX10_wrongHandler 112 = .ok (.iadd, 1) := by decide +kernel
theorem dX10_wrongHandler_113 : decode cX10_wrongHandler 113 = .ok (.bipush 7, 2) := by decide +kernel
theorem dX10_wrongHandler_115 : decode cX10_wrongHandler 115 = .ok (.iload_n 2, 1) := by decide +kernel
theorem dX10_wrongHandler_116 : decode cX10_wrongHandler 116 = .ok (.imul, 1) := by decide +kernel
theorem dX10_wrongHandler_117 : decode cX10_wrongHandler 117 = .ok (.iadd, 1) := by decide +kernel
theorem dX10_wrongHandler_118 : decode cX10_wrongHandler 118 = .ok (.ireturn, 1) := by decide +kernel
theorem dX10_wrongHandler_119 : decode cX10_wrongHandler 119 = .ok (.iinc 2 1, 3) := by decide +kernel
theorem dX10_wrongHandler_122 : decode cX10_wrongHandler 122 = .ok (.goto (-120), 3) := by decide +kernel
theorem dX10_wrongHandler_125 : decode cX10_wrongHandler 125 = .ok (.iconst (-1), 1) := by decide +kernel
theorem dX10_wrongHandler_126 : decode cX10_wrongHandler 126 = .ok (.ireturn, 1) := by decide +kernel
theorem dX10_types_0 : decode cX10_types 0 = .ok (.iconst 0, 1) := by decide +kernel
theorem dX10_types_1 : decode cX10_types 1 = .ok (.istore_n 2, 1) := by decide +kernel
theorem dX10_types_2 : decode cX10_types 2 = .ok (.iload_n 2, 1) := by decide +kernel
theorem dX10_types_3 : decode cX10_types 3 = .ok (.sipush 400, 3) := by decide +kernel
theorem dX10_types_6 : decode cX10_types 6 = .ok (.if_icmp .ge 22, 3) := by decide +kernel
theorem dX10_types_9 : decode cX10_types 9 = .ok (.aload_n 0, 1) := by decide +kernel
theorem dX10_types_10 : decode cX10_types 10 = .ok (.getfield 48, 3) := by decide +kernel
theorem dX10_types_13 : decode cX10_types 13 = .ok (.sipush 400, 3) := by decide +kernel
theorem dX10_types_16 : decode cX10_types 16 = .ok (.iload_n 1, 1) := by decide +kernel
theorem dX10_types_17 : decode cX10_types 17 = .ok (.imul, 1) := by decide +kernel
theorem dX10_types_18 : decode cX10_types 18 = .ok (.iload_n 2, 1) := by decide +kernel
theorem dX10_types_19 : decode cX10_types 19 = .ok (.iadd, 1) := by decide +kernel
theorem dX10_types_20 : decode cX10_types 20 = .ok (.iconst (-1), 1) := by decide +kernel
theorem dX10_types_21 : decode cX10_types 21 = .ok (.iastore, 1) := by decide +kernel
theorem dX10_types_22 : decode cX10_types 22 = .ok (.iinc 2 1, 3) := by decide +kernel
theorem dX10_types_25 : decode cX10_types 25 = .ok (.goto (-23), 3) := by decide +kernel
theorem dX10_types_28 : decode cX10_types 28 = .ok (.aload_n 0, 1) := by decide +kernel
theorem dX10_types_29 : decode cX10_types 29 = .ok (.iconst 1, 1) := by decide +kernel
theorem dX10_types_30 : decode cX10_types 30 = .ok (.putfield 278, 3) := by decide +kernel
theorem dX10_types_33 : decode cX10_types 33 = .ok (.aload_n 0, 1) := by decide +kernel
theorem dX10_types_34 : decode cX10_types 34 = .ok (.iconst 0, 1) := by decide +kernel
theorem dX10_types_35 : decode cX10_types 35 = .ok (.putfield 282, 3) := by decide +kernel
theorem dX10_types_38 : decode cX10_types 38 = .ok (.iconst 0, 1) := by decide +kernel
theorem dX10_types_39 : decode cX10_types 39 = .ok (.istore_n 2, 1) := by decide +kernel
theorem dX10_types_40 : decode cX10_types 40 = .ok (.iload_n 2, 1) := by decide +kernel
theorem dX10_types_41 : decode cX10_types 41 = .ok (.bipush 12, 2) := by decide +kernel
theorem dX10_types_43 : decode cX10_types 43 = .ok (.if_icmp .ge 30, 3) := by decide +kernel
theorem dX10_types_46 : decode cX10_types 46 = .ok (.aload_n 0, 1) := by decide +kernel
theorem dX10_types_47 : decode cX10_types 47 = .ok (.getfield 108, 3) := by decide +kernel
theorem dX10_types_50 : decode cX10_types 50 = .ok (.iload_n 2, 1) := by decide +kernel
theorem dX10_types_51 : decode cX10_types 51 = .ok (.iload_n 2, 1) := by decide +kernel
theorem dX10_types_52 : decode cX10_types 52 = .ok (.aload_n 0, 1) := by decide +kernel
theorem dX10_types_53 : decode cX10_types 53 = .ok (.getfield 17, 3) := by decide +kernel
theorem dX10_types_56 : decode cX10_types 56 = .ok (.iload_n 1, 1) := by decide +kernel
theorem dX10_types_57 : decode cX10_types 57 = .ok (.iaload, 1) := by decide +kernel
theorem dX10_types_58 : decode cX10_types 58 = .ok (.if_icmp .ge 7, 3) := by decide +kernel
theorem dX10_types_61 : decode cX10_types 61 = .ok (.iconst 1, 1) := by decide +kernel
theorem dX10_types_62 : decode cX10_types 62 = .ok (.goto 4, 3) := by decide +kernel
theorem dX10_types_65 : decode cX10_types 65 = .ok (.iconst 0, 1) := by decide +kernel
theorem dX10_types_66 : decode cX10_types 66 = .ok (.iastore, 1) := by decide +kernel
theorem dX10_types_67 : decode cX10_types 67 = .ok (.iinc 2 1, 3) := by decide +kernel
theorem dX10_types_70 : decode cX10_types 70 = .ok (.goto (-30), 3) := by decide +kernel
theorem dX10_types_73 : decode cX10_types 73 = .ok (.aload_n 0, 1) := by decide +kernel
theorem dX10_types_74 : decode cX10_types 74 = .ok (.iload_n 1, 1) := by decide +kernel
theorem dX10_types_75 : decode cX10_types 75 = .ok (.iconst 0, 1) := by decide +kernel
theorem dX10_types_76 : decode cX10_types 76 = .ok (.invokevirtual 285, 3) := by decide +kernel
theorem dX10_types_79 : decode cX10_types 79 = .ok (.aload_n 0, 1) := by decide +kernel
theorem dX10_types_80 : decode cX10_types 80 = .ok (.iconst 1, 1) := by decide +kernel
theorem dX10_types_81 : decode cX10_types 81 = .ok (.putfield 289, 3) := by decide +kernel
theorem dX10_types_84 : decode cX10_types 84 = .ok (.aload_n 0, 1) := by decide +kernel
theorem dX10_types_85 : decode cX10_types 85 = .ok (.getfield 289, 3) := by decide +kernel
theorem dX10_types_88 : decode cX10_types 88 = .ok (.ifCond .eq 79, 3) := by decide +kernel
theorem dX10_types_91 : decode cX10_types 91 = .ok (.aload_n 0, 1) := by decide +kernel
theorem dX10_types_92 : decode cX10_types 92 = .ok (.getfield 278, 3) := by decide +kernel
theorem dX10_types_95 : decode cX10_types 95 = .ok (.ifCond .eq 72, 3) := by decide +kernel
theorem dX10_types_98 : decode cX10_types 98 = .ok (.aload_n 0, 1) := by decide +kernel
theorem dX10_types_99 : decode cX10_types 99 = .ok (.iconst 0, 1) := by decide +kernel
theorem dX10_types_100 : decode cX10_types 100 = .ok (.putfield 289, 3) := by decide +kernel
theorem dX10_types_103 : decode cX10_types 103 = .ok (.iconst 0, 1) := by decide +kernel
theorem dX10_types_104 : decode cX10_types 104 = .ok (.istore_n 2, 1) := by decide +kernel
theorem dX10_types_105 : decode cX10_types 105 = .ok (.iload_n 2, 1) := by decide +kernel
theorem dX10_types_106 : decode cX10_types 106 = .ok (.aload_n 0, 1) := by decide +kernel
theorem dX10_types_107 : decode cX10_types 107 = .ok (.getfield 23, 3) := by decide +kernel
theorem dX10_types_110 : decode cX10_types 110 = .ok (.iload_n 1, 1) := by decide +kernel
theorem dX10_types_111 : decode cX10_types 111 = .ok (.iaload, 1) := by decide +kernel
theorem dX10_types_112 : decode cX10_types 112 = .ok (.if_icmp .ge 52, 3) := by decide +kernel
theorem dX10_types_115 : decode cX10_types 115 = .ok (.aload_n 0, 1) := by decide +kernel
theorem dX10_types_116 : decode cX10_types 116 = .ok (.getfield 44, 3) := by decide +kernel
theorem dX10_types_119 : decode cX10_types 119 = .ok (.sipush 400, 3) := by decide +kernel
theorem dX10_types_122 : decode cX10_types 122 = .ok (.iload_n 1, 1) := by decide +kernel
theorem dX10_types_123 : decode cX10_types 123 = .ok (.imul, 1) := by decide +kernel
theorem dX10_types_124 : decode cX10_types 124 = .ok (.iload_n 2, 1) := by decide +kernel
theorem dX10_types_125 : decode cX10_types 125 = .ok (.iadd, 1) := by decide +kernel
theorem dX10_types_126 : decode cX10_types 126 = .ok (.baload, 1) := by decide +kernel
theorem dX10_types_127 : decode cX10_types 127 = .ok (.ifCond .eq 31, 3) := by decide +kernel
theorem dX10_types_130 : decode cX10_types 130 = .ok (.aload_n 0, 1) := by decide +kernel
theorem dX10_types_131 : decode cX10_types 131 = .ok (.getfield 48, 3) := by decide +kernel
theorem dX10_types_134 : decode cX10_types 134 = .ok (.sipush 400, 3) := by decide +kernel
theorem dX10_types_137 : decode cX10_types 137 = .ok (.iload_n 1, 1) := by decide +kernel
theorem dX10_types_138 : decode cX10_types 138 = .ok (.imul, 1) := by decide +kernel
theorem dX10_types_139 : decode cX10_types 139 = .ok (.iload_n 2, 1) := by decide +kernel
theorem dX10_types_140 : decode cX10_types 140 = .ok (.iadd, 1) := by decide +kernel
theorem dX10_types_141 : decode cX10_types 141 = .ok (.iaload, 1) := by decide +kernel
theorem dX10_types_142 : decode cX10_types 142 = .ok (.ifCond .lt 16, 3) := by decide +kernel
theorem dX10_types_145 : decode cX10_types 145 = .ok (.aload_n 0, 1) := by decide +kernel
theorem dX10_types_146 : decode cX10_types 146 = .ok (.getfield 278, 3) := by decide +kernel
theorem dX10_types_149 : decode cX10_types 149 = .ok (.ifCond .eq 9, 3) := by decide +kernel
theorem dX10_types_152 : decode cX10_types 152 = .ok (.aload_n 0, 1) := by decide +kernel
theorem dX10_types_153 : decode cX10_types 153 = .ok (.iload_n 1, 1) := by decide +kernel
theorem dX10_types_154 : decode cX10_types 154 = .ok (.iload_n 2, 1) := by decide +kernel
theorem dX10_types_155 : decode cX10_types 155 = .ok (.invokevirtual 292, 3) := by decide +kernel
theorem dX10_types_158 : decode cX10_types 158 = .ok (.iinc 2 1, 3) := by decide +kernel
theorem dX10_types_161 : decode cX10_types 161 = .ok (.goto (-56), 3) := by decide +kernel
theorem dX10_types_164 : decode cX10_types 164 = .ok (.goto (-80), 3) := by decide +kernel
theorem dX10_types_167 : decode cX10_types 167 = .ok (.aload_n 0, 1) := by decide +kernel
theorem dX10_types_168 : decode cX10_types 168 = .ok (.getfield 278, 3) := by decide +kernel
theorem dX10_types_171 : decode cX10_types 171 = .ok (.ireturn, 1) := by decide +kernel
theorem dX10_comes_0 : decode cX10_comes 0 = .ok (.iload_n 2, 1) := by decide +kernel
theorem dX10_comes_1 : decode cX10_comes 1 = .ok (.aload_n 0, 1) := by decide +kernel
theorem dX10_comes_2 : decode cX10_comes 2 = .ok (.getfield 23, 3) := by decide +kernel
theorem dX10_comes_5 : decode cX10_comes 5 = .ok (.iload_n 1, 1) := by decide +kernel
theorem dX10_comes_6 : decode cX10_comes 6 = .ok (.iaload, 1) := by decide +kernel
theorem dX10_comes_7 : decode cX10_comes 7 = .ok (.if_icmp .lt 9, 3) := by decide +kernel
theorem dX10_comes_10 : decode cX10_comes 10 = .ok (.aload_n 0, 1) := by decide +kernel
theorem dX10_comes_11 : decode cX10_comes 11 = .ok (.iconst 0, 1) := by decide +kernel
theorem dX10_comes_12 : decode cX10_comes 12 = .ok (.putfield 278, 3) := by decide +kernel
theorem dX10_comes_15 : decode cX10_comes 15 = .ok (.return_, 1) := by decide +kernel
theorem dX10_comes_16 : decode cX10_comes 16 = .ok (.sipush 400, 3) := by decide +kernel
theorem dX10_comes_19 : decode cX10_comes 19 = .ok (.iload_n 1, 1) := by decide +kernel
theorem dX10_comes_20 : decode cX10_comes 20 = .ok (.imul, 1) := by decide +kernel
theorem dX10_comes_21 : decode cX10_comes 21 = .ok (.iload_n 2, 1) := by decide +kernel
theorem dX10_comes_22 : decode cX10_comes 22 = .ok (.iadd, 1) := by decide +kernel
theorem dX10_comes_23 : decode cX10_comes 23 = .ok (.istore_n 3, 1) := by decide +kernel
theorem dX10_comes_24 : decode cX10_comes 24 = .ok (.aload_n 0, 1) := by decide +kernel
theorem dX10_comes_25 : decode cX10_comes 25 = .ok (.getfield 48, 3) := by decide +kernel
theorem dX10_comes_28 : decode cX10_comes 28 = .ok (.iload_n 3, 1) := by decide +kernel
theorem dX10_comes_29 : decode cX10_comes 29 = .ok (.iaload, 1) := by decide +kernel
theorem dX10_comes_30 : decode cX10_comes 30 = .ok (.iconst (-1), 1) := by decide +kernel
theorem dX10_comes_31 : decode cX10_comes 31 = .ok (.if_icmp .ne 91, 3) := by decide +kernel
theorem dX10_comes_34 : decode cX10_comes 34 = .ok (.aload_n 0, 1) := by decide +kernel
theorem dX10_comes_35 : decode cX10_comes 35 = .ok (.getfield 48, 3) := by decide +kernel
theorem dX10_comes_38 : decode cX10_comes 38 = .ok (.iload_n 3, 1) := by decide +kernel
theorem dX10_comes_39 : decode cX10_comes 39 = .ok (.aload_n 0, 1) := by decide +kernel
theorem dX10_comes_40 : decode cX10_comes 40 = .ok (.getfield 282, 3) := by decide +kernel
theorem dX10_comes_43 : decode cX10_comes 43 = .ok (.iastore, 1) := by decide +kernel
theorem dX10_comes_44 : decode cX10_comes 44 = .ok (.iconst 0, 1) := by decide +kernel
theorem dX10_comes_45 : decode cX10_comes 45 = .ok (.istore 4, 2) := by decide +kernel
theorem dX10_comes_47 : decode cX10_comes 47 = .ok (.iload 4, 2) := by decide +kernel
theorem dX10_comes_49 : decode cX10_comes 49 = .ok (.bipush 12, 2) := by decide +kernel
theorem dX10_comes_51 : decode cX10_comes 51 = .ok (.if_icmp .ge 28, 3) := by decide +kernel
theorem dX10_comes_54 : decode cX10_comes 54 = .ok (.aload_n 0, 1) := by decide +kernel
theorem dX10_comes_55 : decode cX10_comes 55 = .ok (.getfield 51, 3) := by decide +kernel
theorem dX10_comes_58 : decode cX10_comes 58 = .ok (.bipush 12, 2) := by decide +kernel
theorem dX10_comes_60 : decode cX10_comes 60 = .ok (.iload_n 3, 1) := by decide +kernel
theorem dX10_comes_61 : decode cX10_comes 61 = .ok (.imul, 1) := by decide +kernel
theorem dX10_comes_62 : decode cX10_comes 62 = .ok (.iload 4, 2) := by decide +kernel
theorem dX10_comes_64 : decode cX10_comes 64 = .ok (.iadd, 1) := by decide +kernel
theorem dX10_comes_65 : decode cX10_comes 65 = .ok (.aload_n 0, 1) := by decide +kernel
theorem dX10_comes_66 : decode cX10_comes 66 = .ok (.getfield 108, 3) := by decide +kernel
theorem dX10_comes_69 : decode cX10_comes 69 = .ok (.iload 4, 2) := by decide +kernel
theorem dX10_comes_71 : decode cX10_comes 71 = .ok (.iaload, 1) := by decide +kernel
theorem dX10_comes_72 : decode cX10_comes 72 = .ok (.iastore, 1) := by decide +kernel
theorem dX10_comes_73 : decode cX10_comes 73 = .ok (.iinc 4 1, 3) := by decide +kernel
theorem dX10_comes_76 : decode cX10_comes 76 = .ok (.goto (-29), 3) := by decide +kernel
theorem dX10_comes_79 : decode cX10_comes 79 = .ok (.iconst 0, 1) := by decide +kernel
theorem dX10_comes_80 : decode cX10_comes 80 = .ok (.istore 4, 2) := by decide +kernel
theorem dX10_comes_82 : decode cX10_comes 82 = .ok (.iload 4, 2) := by decide +kernel
theorem dX10_comes_84 : decode cX10_comes 84 = .ok (.aload_n 0, 1) := by decide +kernel
theorem dX10_comes_85 : decode cX10_comes 85 = .ok (.getfield 282, 3) := by decide +kernel
theorem dX10_comes_88 : decode cX10_comes 88 = .ok (.if_icmp .ge 28, 3) := by decide +kernel
theorem dX10_comes_91 : decode cX10_comes 91 = .ok (.aload_n 0, 1) := by decide +kernel
theorem dX10_comes_92 : decode cX10_comes 92 = .ok (.getfield 54, 3) := by decide +kernel
theorem dX10_comes_95 : decode cX10_comes 95 = .ok (.bipush 10, 2) := by decide +kernel
theorem dX10_comes_97 : decode cX10_comes 97 = .ok (.iload_n 3, 1) := by decide +kernel
theorem dX10_comes_98 : decode cX10_comes 98 = .ok (.imul, 1) := by decide +kernel
theorem dX10_comes_99 : decode cX10_comes 99 = .ok (.iload 4, 2) := by decide +kernel
theorem dX10_comes_101 : decode cX10_comes 101 = .ok (.iadd, 1) := by decide +kernel
theorem dX10_comes_102 : decode cX10_comes 102 = .ok (.aload_n 0, 1) := by decide +kernel
theorem dX10_comes_103 : decode cX10_comes 103 = .ok (.getfield 111, 3) := by decide +kernel
theorem dX10_comes_106 : decode cX10_comes 106 = .ok (.iload 4, 2) := by decide +kernel
theorem dX10_comes_108 : decode cX10_comes 108 = .ok (.iaload, 1) := by decide +kernel
theorem dX10_comes_109 : decode cX10_comes 109 = .ok (.iastore, 1) := by decide +kernel
theorem dX10_comes_110 : decode cX10_comes 110 = .ok (.iinc 4 1, 3) := by decide +kernel
theorem dX10_comes_113 : decode cX10_comes 113 = .ok (.goto (-31), 3) := by decide +kernel
theorem dX10_comes_116 : decode cX10_comes 116 = .ok (.aload_n 0, 1) := by decide +kernel
theorem dX10_comes_117 : decode cX10_comes 117 = .ok (.iconst 1, 1) := by decide +kernel
theorem dX10_comes_118 : decode cX10_comes 118 = .ok (.putfield 289, 3) := by decide +kernel
theorem dX10_comes_121 : decode cX10_comes 121 = .ok (.return_, 1) := by decide +kernel
theorem dX10_comes_122 : decode cX10_comes 122 = .ok (.aload_n 0, 1) := by decide +kernel
theorem dX10_comes_123 : decode cX10_comes 123 = .ok (.aload_n 0, 1) := by decide +kernel
theorem dX10_comes_124 : decode cX10_comes 124 = .ok (.getfield 278, 3) := by decide +kernel
theorem dX10_comes_127 : decode cX10_comes 127 = .ok (.ifCond .eq 20, 3) := by decide +kernel
theorem dX10_comes_130 : decode cX10_comes 130 = .ok (.aload_n 0, 1) := by decide +kernel
theorem dX10_comes_131 : decode cX10_comes 131 = .ok (.getfield 48, 3) := by decide +kernel
theorem dX10_comes_134 : decode cX10_comes 134 = .ok (.iload_n 3, 1) := by decide +kernel
theorem dX10_comes_135 : decode cX10_comes 135 = .ok (.iaload, 1) := by decide +kernel
theorem dX10_comes_136 : decode cX10_comes 136 = .ok (.aload_n 0, 1) := by decide +kernel
theorem dX10_comes_137 : decode cX10_comes 137 = .ok (.getfield 282, 3) := by decide +kernel
theorem dX10_comes_140 : decode cX10_comes 140 = .ok (.if_icmp .ne 7, 3) := by decide +kernel
theorem dX10_comes_143 : decode cX10_comes 143 = .ok (.iconst 1, 1) := by decide +kernel
theorem dX10_comes_144 : decode cX10_comes 144 = .ok (.goto 4, 3) := by decide +kernel
theorem dX10_comes_147 : decode cX10_comes 147 = .ok (.iconst 0, 1) := by decide +kernel
theorem dX10_comes_148 : decode cX10_comes 148 = .ok (.putfield 278, 3) := by decide +kernel
theorem dX10_comes_151 : decode cX10_comes 151 = .ok (.iconst 0, 1) := by decide +kernel
theorem dX10_comes_152 : decode cX10_comes 152 = .ok (.istore 4, 2) := by decide +kernel
theorem dX10_comes_154 : decode cX10_comes 154 = .ok (.iload 4, 2) := by decide +kernel
theorem dX10_comes_156 : decode cX10_comes 156 = .ok (.aload_n 0, 1) := by decide +kernel
theorem dX10_comes_157 : decode cX10_comes 157 = .ok (.getfield 282, 3) := by decide +kernel
theorem dX10_comes_160 : decode cX10_comes 160 = .ok (.if_icmp .ge 47, 3) := by decide +kernel
theorem dX10_comes_163 : decode cX10_comes 163 = .ok (.aload_n 0, 1) := by decide +kernel
theorem dX10_comes_164 : decode cX10_comes 164 = .ok (.getfield 278, 3) := by decide +kernel
theorem dX10_comes_167 : decode cX10_comes 167 = .ok (.ifCond .eq 40, 3) := by decide +kernel
theorem dX10_comes_170 : decode cX10_comes 170 = .ok (.aload_n 0, 1) := by decide +kernel
theorem dX10_comes_171 : decode cX10_comes 171 = .ok (.aload_n 0, 1) := by decide +kernel
theorem dX10_comes_172 : decode cX10_comes 172 = .ok (.getfield 54, 3) := by decide +kernel
theorem dX10_comes_175 : decode cX10_comes 175 = .ok (.bipush 10, 2) := by decide +kernel
theorem dX10_comes_177 : decode cX10_comes 177 = .ok (.iload_n 3, 1) := by decide +kernel
theorem dX10_comes_178 : decode cX10_comes 178 = .ok (.imul, 1) := by decide +kernel
theorem dX10_comes_179 : decode cX10_comes 179 = .ok (.iload 4, 2) := by decide +kernel
theorem dX10_comes_181 : decode cX10_comes 181 = .ok (.iadd, 1) := by decide +kernel
theorem dX10_comes_182 : decode cX10_comes 182 = .ok (.iaload, 1) := by decide +kernel
theorem dX10_comes_183 : decode cX10_comes 183 = .ok (.aload_n 0, 1) := by decide +kernel
theorem dX10_comes_184 : decode cX10_comes 184 = .ok (.getfield 111, 3) := by decide +kernel
theorem dX10_comes_187 : decode cX10_comes 187 = .ok (.iload 4, 2) := by decide +kernel
theorem dX10_comes_189 : decode cX10_comes 189 = .ok (.iaload, 1) := by decide +kernel
theorem dX10_comes_190 : decode cX10_comes 190 = .ok (.if_icmp .ne 7, 3) := by decide +kernel
theorem dX10_comes_193 : decode cX10_comes 193 = .ok (.iconst 1, 1) := by decide +kernel
theorem dX10_comes_194 : decode cX10_comes 194 = .ok (.goto 4, 3) := by decide +kernel
theorem dX10_comes_197 : decode cX10_comes 197 = .ok (.iconst 0, 1) := by decide +kernel
theorem dX10_comes_198 : decode cX10_comes 198 = .ok (.putfield 278, 3) := by decide +kernel
theorem dX10_comes_201 : decode cX10_comes 201 = .ok (.iinc 4 1, 3) := by decide +kernel
theorem dX10_comes_204 : decode cX10_comes 204 = .ok (.goto (-50), 3) := by decide +kernel
theorem dX10_comes_207 : decode cX10_comes 207 = .ok (.iconst 0, 1) := by decide +kernel
theorem dX10_comes_208 : decode cX10_comes 208 = .ok (.istore 4, 2) := by decide +kernel
theorem dX10_comes_210 : decode cX10_comes 210 = .ok (.iload 4, 2) := by decide +kernel
theorem dX10_comes_212 : decode cX10_comes 212 = .ok (.bipush 12, 2) := by decide +kernel
theorem dX10_comes_214 : decode cX10_comes 214 = .ok (.if_icmp .ge 64, 3) := by decide +kernel
theorem dX10_comes_217 : decode cX10_comes 217 = .ok (.aload_n 0, 1) := by decide +kernel
theorem dX10_comes_218 : decode cX10_comes 218 = .ok (.getfield 51, 3) := by decide +kernel
theorem dX10_comes_221 : decode cX10_comes 221 = .ok (.bipush 12, 2) := by decide +kernel
theorem dX10_comes_223 : decode cX10_comes 223 = .ok (.iload_n 3, 1) := by decide +kernel
theorem dX10_comes_224 : decode cX10_comes 224 = .ok (.imul, 1) := by decide +kernel
theorem dX10_comes_225 : decode cX10_comes 225 = .ok (.iload 4, 2) := by decide +kernel
theorem dX10_comes_227 : decode cX10_comes 227 = .ok (.iadd, 1) := by decide +kernel
theorem dX10_comes_228 : decode cX10_comes 228 = .ok (.iaload, 1) := by decide +kernel
theorem dX10_comes_229 : decode cX10_comes 229 = .ok (.aload_n 0, 1) := by decide +kernel
theorem dX10_comes_230 : decode cX10_comes 230 = .ok (.getfield 108, 3) := by decide +kernel
theorem dX10_comes_233 : decode cX10_comes 233 = .ok (.iload 4, 2) := by decide +kernel
theorem dX10_comes_235 : decode cX10_comes 235 = .ok (.iaload, 1) := by decide +kernel
theorem dX10_comes_236 : decode cX10_comes 236 = .ok (.if_icmp .eq 36, 3) := by decide +kernel
theorem dX10_comes_239 : decode cX10_comes 239 = .ok (.aload_n 0, 1) := by decide +kernel
theorem dX10_comes_240 : decode cX10_comes 240 = .ok (.getfield 51, 3) := by decide +kernel
theorem dX10_comes_243 : decode cX10_comes 243 = .ok (.bipush 12, 2) := by decide +kernel
theorem dX10_comes_245 : decode cX10_comes 245 = .ok (.iload_n 3, 1) := by decide +kernel
theorem dX10_comes_246 : decode cX10_comes 246 = .ok (.imul, 1) := by decide +kernel
theorem dX10_comes_247 : decode cX10_comes 247 = .ok (.iload 4, 2) := by decide +kernel
theorem dX10_comes_249 : decode cX10_comes 249 = .ok (.iadd, 1) := by decide +kernel
theorem dX10_comes_250 : decode cX10_comes 250 = .ok (.iaload, 1) := by decide +kernel
theorem dX10_comes_251 : decode cX10_comes 251 = .ok (.ifCond .eq 21, 3) := by decide +kernel
theorem dX10_comes_254 : decode cX10_comes 254 = .ok (.aload_n 0, 1) := by decide +kernel
theorem dX10_comes_255 : decode cX10_comes 255 = .ok (.getfield 51, 3) := by decide +kernel
theorem dX10_comes_258 : decode cX10_comes 258 = .ok (.bipush 12, 2) := by decide +kernel
theorem dX10_comes_260 : decode cX10_comes 260 = .ok (.iload_n 3, 1) := by decide +kernel
theorem dX10_comes_261 : decode cX10_comes 261 = .ok (.imul, 1) := by decide +kernel
theorem dX10_comes_262 : decode cX10_comes 262 = .ok (.iload 4, 2) := by decide +kernel
theorem dX10_comes_264 : decode cX10_comes 264 = .ok (.iadd, 1) := by decide +kernel
theorem dX10_comes_265 : decode cX10_comes 265 = .ok (.iconst 0, 1) := by decide +kernel
theorem dX10_comes_266 : decode cX10_comes 266 = .ok (.iastore, 1) := by decide +kernel
theorem dX10_comes_267 : decode cX10_comes 267 = .ok (.aload_n 0, 1) := by decide +kernel
theorem dX10_comes_268 : decode cX10_comes 268 = .ok (.iconst 1, 1) := by decide +kernel
theorem dX10_comes_269 : decode cX10_comes 269 = .ok (.putfield 289, 3) := by decide +kernel
theorem dX10_comes_272 : decode cX10_comes 272 = .ok (.iinc 4 1, 3) := by decide +kernel
theorem dX10_comes_275 : decode cX10_comes 275 = .ok (.goto (-65), 3) := by decide +kernel
theorem dX10_comes_278 : decode cX10_comes 278 = .ok (.return_, 1) := by decide +kernel
theorem dX10_lay_0 : decode cX10_lay 0 = .ok (.sipush 400, 3) := by decide +kernel
theorem dX10_lay_3 : decode cX10_lay 3 = .ok (.iload_n 1, 1) := by decide +kernel
theorem dX10_lay_4 : decode cX10_lay 4 = .ok (.imul, 1) := by decide +kernel
theorem dX10_lay_5 : decode cX10_lay 5 = .ok (.iload_n 2, 1) := by decide +kernel
theorem dX10_lay_6 : decode cX10_lay 6 = .ok (.iadd, 1) := by decide +kernel
theorem dX10_lay_7 : decode cX10_lay 7 = .ok (.istore_n 3, 1) := by decide +kernel
theorem dX10_lay_8 : decode cX10_lay 8 = .ok (.aload_n 0, 1) := by decide +kernel
theorem dX10_lay_9 : decode cX10_lay 9 = .ok (.aload_n 0, 1) := by decide +kernel
theorem dX10_lay_10 : decode cX10_lay 10 = .ok (.getfield 48, 3) := by decide +kernel
theorem dX10_lay_13 : decode cX10_lay 13 = .ok (.iload_n 3, 1) := by decide +kernel
theorem dX10_lay_14 : decode cX10_lay 14 = .ok (.iaload, 1) := by decide +kernel
theorem dX10_lay_15 : decode cX10_lay 15 = .ok (.putfield 282, 3) := by decide +kernel
theorem dX10_lay_18 : decode cX10_lay 18 = .ok (.iconst 0, 1) := by decide +kernel
theorem dX10_lay_19 : decode cX10_lay 19 = .ok (.istore 4, 2) := by decide +kernel
theorem dX10_lay_21 : decode cX10_lay 21 = .ok (.iload 4, 2) := by decide +kernel
theorem dX10_lay_23 : decode cX10_lay 23 = .ok (.bipush 12, 2) := by decide +kernel
theorem dX10_lay_25 : decode cX10_lay 25 = .ok (.if_icmp .ge 28, 3) := by decide +kernel
theorem dX10_lay_28 : decode cX10_lay 28 = .ok (.aload_n 0, 1) := by decide +kernel
theorem dX10_lay_29 : decode cX10_lay 29 = .ok (.getfield 108, 3) := by decide +kernel
theorem dX10_lay_32 : decode cX10_lay 32 = .ok (.iload 4, 2) := by decide +kernel
theorem dX10_lay_34 : decode cX10_lay 34 = .ok (.aload_n 0, 1) := by decide +kernel
theorem dX10_lay_35 : decode cX10_lay 35 = .ok (.getfield 51, 3) := by decide +kernel
theorem dX10_lay_38 : decode cX10_lay 38 = .ok (.bipush 12, 2) := by decide +kernel
theorem dX10_lay_40 : decode cX10_lay 40 = .ok (.iload_n 3, 1) := by decide +kernel
theorem dX10_lay_41 : decode cX10_lay 41 = .ok (.imul, 1) := by decide +kernel
theorem dX10_lay_42 : decode cX10_lay 42 = .ok (.iload 4, 2) := by decide +kernel
theorem dX10_lay_44 : decode cX10_lay 44 = .ok (.iadd, 1) := by decide +kernel
theorem dX10_lay_45 : decode cX10_lay 45 = .ok (.iaload, 1) := by decide +kernel
theorem dX10_lay_46 : decode cX10_lay 46 = .ok (.iastore, 1) := by decide +kernel
theorem dX10_lay_47 : decode cX10_lay 47 = .ok (.iinc 4 1, 3) := by decide +kernel
theorem dX10_lay_50 : decode cX10_lay 50 = .ok (.goto (-29), 3) := by decide +kernel
theorem dX10_lay_53 : decode cX10_lay 53 = .ok (.iconst 0, 1) := by decide +kernel
theorem dX10_lay_54 : decode cX10_lay 54 = .ok (.istore 4, 2) := by decide +kernel
theorem dX10_lay_56 : decode cX10_lay 56 = .ok (.iload 4, 2) := by decide +kernel
theorem dX10_lay_58 : decode cX10_lay 58 = .ok (.aload_n 0, 1) := by decide +kernel
theorem dX10_lay_59 : decode cX10_lay 59 = .ok (.getfield 282, 3) := by decide +kernel
theorem dX10_lay_62 : decode cX10_lay 62 = .ok (.if_icmp .ge 28, 3) := by decide +kernel
theorem dX10_lay_65 : decode cX10_lay 65 = .ok (.aload_n 0, 1) := by decide +kernel
theorem dX10_lay_66 : decode cX10_lay 66 = .ok (.getfield 111, 3) := by decide +kernel
theorem dX10_lay_69 : decode cX10_lay 69 = .ok (.iload 4, 2) := by decide +kernel
theorem dX10_lay_71 : decode cX10_lay 71 = .ok (.aload_n 0, 1) := by decide +kernel
theorem dX10_lay_72 : decode cX10_lay 72 = .ok (.getfield 54, 3) := by decide +kernel
theorem dX10_lay_75 : decode cX10_lay 75 = .ok (.bipush 10, 2) := by decide +kernel
theorem dX10_lay_77 : decode cX10_lay 77 = .ok (.iload_n 3, 1) := by decide +kernel
theorem dX10_lay_78 : decode cX10_lay 78 = .ok (.imul, 1) := by decide +kernel
theorem dX10_lay_79 : decode cX10_lay 79 = .ok (.iload 4, 2) := by decide +kernel
theorem dX10_lay_81 : decode cX10_lay 81 = .ok (.iadd, 1) := by decide +kernel
theorem dX10_lay_82 : decode cX10_lay 82 = .ok (.iaload, 1) := by decide +kernel
theorem dX10_lay_83 : decode cX10_lay 83 = .ok (.iastore, 1) := by decide +kernel
theorem dX10_lay_84 : decode cX10_lay 84 = .ok (.iinc 4 1, 3) := by decide +kernel
theorem dX10_lay_87 : decode cX10_lay 87 = .ok (.goto (-31), 3) := by decide +kernel
theorem dX10_lay_90 : decode cX10_lay 90 = .ok (.return_, 1) := by decide +kernel
theorem dX10_passes_0 : decode cX10_passes 0 = .ok (.aload_n 0, 1) := by decide +kernel
theorem dX10_passes_1 : decode cX10_passes 1 = .ok (.iload_n 1, 1) := by decide +kernel
theorem dX10_passes_2 : decode cX10_passes 2 = .ok (.iload_n 2, 1) := by decide +kernel
theorem dX10_passes_3 : decode cX10_passes 3 = .ok (.invokevirtual 295, 3) := by decide +kernel
theorem dX10_passes_6 : decode cX10_passes 6 = .ok (.iconst 0, 1) := by decide +kernel
theorem dX10_passes_7 : decode cX10_passes 7 = .ok (.istore_n 3, 1) := by decide +kernel
theorem dX10_passes_8 : decode cX10_passes 8 = .ok (.iload_n 3, 1) := by decide +kernel
theorem dX10_passes_9 : decode cX10_passes 9 = .ok (.aload_n 0, 1) := by decide +kernel
theorem dX10_passes_10 : decode cX10_passes 10 = .ok (.getfield 29, 3) := by decide +kernel
theorem dX10_passes_13 : decode cX10_passes 13 = .ok (.iload_n 1, 1) := by decide +kernel
theorem dX10_passes_14 : decode cX10_passes 14 = .ok (.iaload, 1) := by decide +kernel
theorem dX10_passes_15 : decode cX10_passes 15 = .ok (.if_icmp .ge 63, 3) := by decide +kernel
theorem dX10_passes_18 : decode cX10_passes 18 = .ok (.bipush 8, 2) := by decide +kernel
theorem dX10_passes_20 : decode cX10_passes 20 = .ok (.iload_n 1, 1) := by decide +kernel
theorem dX10_passes_21 : decode cX10_passes 21 = .ok (.imul, 1) := by decide +kernel
theorem dX10_passes_22 : decode cX10_passes 22 = .ok (.iload_n 3, 1) := by decide +kernel
theorem dX10_passes_23 : decode cX10_passes 23 = .ok (.iadd, 1) := by decide +kernel
theorem dX10_passes_24 : decode cX10_passes 24 = .ok (.istore 4, 2) := by decide +kernel
theorem dX10_passes_26 : decode cX10_passes 26 = .ok (.aload_n 0, 1) := by decide +kernel
theorem dX10_passes_27 : decode cX10_passes 27 = .ok (.getfield 32, 3) := by decide +kernel
theorem dX10_passes_30 : decode cX10_passes 30 = .ok (.iload 4, 2) := by decide +kernel
theorem dX10_passes_32 : decode cX10_passes 32 = .ok (.iaload, 1) := by decide +kernel
theorem dX10_passes_33 : decode cX10_passes 33 = .ok (.iload_n 2, 1) := by decide +kernel
theorem dX10_passes_34 : decode cX10_passes 34 = .ok (.if_icmp .gt 38, 3) := by decide +kernel
theorem dX10_passes_37 : decode cX10_passes 37 = .ok (.iload_n 2, 1) := by decide +kernel
theorem dX10_passes_38 : decode cX10_passes 38 = .ok (.aload_n 0, 1) := by decide +kernel
theorem dX10_passes_39 : decode cX10_passes 39 = .ok (.getfield 35, 3) := by decide +kernel
theorem dX10_passes_42 : decode cX10_passes 42 = .ok (.iload 4, 2) := by decide +kernel
theorem dX10_passes_44 : decode cX10_passes 44 = .ok (.iaload, 1) := by decide +kernel
theorem dX10_passes_45 : decode cX10_passes 45 = .ok (.if_icmp .ge 27, 3) := by decide +kernel
theorem dX10_passes_48 : decode cX10_passes 48 = .ok (.aload_n 0, 1) := by decide +kernel
theorem dX10_passes_49 : decode cX10_passes 49 = .ok (.iconst 1, 1) := by decide +kernel
theorem dX10_passes_50 : decode cX10_passes 50 = .ok (.putfield 282, 3) := by decide +kernel
theorem dX10_passes_53 : decode cX10_passes 53 = .ok (.aload_n 0, 1) := by decide +kernel
theorem dX10_passes_54 : decode cX10_passes 54 = .ok (.getfield 111, 3) := by decide +kernel
theorem dX10_passes_57 : decode cX10_passes 57 = .ok (.iconst 0, 1) := by decide +kernel
theorem dX10_passes_58 : decode cX10_passes 58 = .ok (.iconst 1, 1) := by decide +kernel
theorem dX10_passes_59 : decode cX10_passes 59 = .ok (.iastore, 1) := by decide +kernel
theorem dX10_passes_60 : decode cX10_passes 60 = .ok (.aload_n 0, 1) := by decide +kernel
theorem dX10_passes_61 : decode cX10_passes 61 = .ok (.iload_n 1, 1) := by decide +kernel
theorem dX10_passes_62 : decode cX10_passes 62 = .ok (.aload_n 0, 1) := by decide +kernel
theorem dX10_passes_63 : decode cX10_passes 63 = .ok (.getfield 38, 3) := by decide +kernel
theorem dX10_passes_66 : decode cX10_passes 66 = .ok (.iload 4, 2) := by decide +kernel
theorem dX10_passes_68 : decode cX10_passes 68 = .ok (.iaload, 1) := by decide +kernel
theorem dX10_passes_69 : decode cX10_passes 69 = .ok (.invokevirtual 285, 3) := by decide +kernel
theorem dX10_passes_72 : decode cX10_passes 72 = .ok (.iinc 3 1, 3) := by decide +kernel
theorem dX10_passes_75 : decode cX10_passes 75 = .ok (.goto (-67), 3) := by decide +kernel
theorem dX10_passes_78 : decode cX10_passes 78 = .ok (.aload_n 0, 1) := by decide +kernel
theorem dX10_passes_79 : decode cX10_passes 79 = .ok (.iload_n 1, 1) := by decide +kernel
theorem dX10_passes_80 : decode cX10_passes 80 = .ok (.iload_n 2, 1) := by decide +kernel
theorem dX10_passes_81 : decode cX10_passes 81 = .ok (.invokevirtual 295, 3) := by decide +kernel
theorem dX10_passes_84 : decode cX10_passes 84 = .ok (.aload_n 0, 1) := by decide +kernel
theorem dX10_passes_85 : decode cX10_passes 85 = .ok (.getfield 26, 3) := by decide +kernel
theorem dX10_passes_88 : decode cX10_passes 88 = .ok (.sipush 400, 3) := by decide +kernel
theorem dX10_passes_91 : decode cX10_passes 91 = .ok (.iload_n 1, 1) := by decide +kernel
theorem dX10_passes_92 : decode cX10_passes 92 = .ok (.imul, 1) := by decide +kernel
theorem dX10_passes_93 : decode cX10_passes 93 = .ok (.iload_n 2, 1) := by decide +kernel
theorem dX10_passes_94 : decode cX10_passes 94 = .ok (.iadd, 1) := by decide +kernel
theorem dX10_passes_95 : decode cX10_passes 95 = .ok (.iaload, 1) := by decide +kernel
theorem dX10_passes_96 : decode cX10_passes 96 = .ok (.istore_n 3, 1) := by decide +kernel
theorem dX10_passes_97 : decode cX10_passes 97 = .ok (.aload_n 0, 1) := by decide +kernel
theorem dX10_passes_98 : decode cX10_passes 98 = .ok (.iload_n 1, 1) := by decide +kernel
theorem dX10_passes_99 : decode cX10_passes 99 = .ok (.iload_n 2, 1) := by decide +kernel
theorem dX10_passes_100 : decode cX10_passes 100 = .ok (.iload_n 3, 1) := by decide +kernel
theorem dX10_passes_101 : decode cX10_passes 101 = .ok (.invokevirtual 298, 3) := by decide +kernel
theorem dX10_passes_104 : decode cX10_passes 104 = .ok (.aload_n 0, 1) := by decide +kernel
theorem dX10_passes_105 : decode cX10_passes 105 = .ok (.getfield 278, 3) := by decide +kernel
theorem dX10_passes_108 : decode cX10_passes 108 = .ok (.ifCond .ne 4, 3) := by decide +kernel
theorem dX10_passes_111 : decode cX10_passes 111 = .ok (.return_, 1) := by decide +kernel
theorem dX10_passes_112 : decode cX10_passes 112 = .ok (.iconst 0, 1) := by decide +kernel
theorem dX10_passes_113 : decode cX10_passes 113 = .ok (.istore 4, 2) := by decide +kernel
theorem dX10_passes_115 : decode cX10_passes 115 = .ok (.iload 4, 2) := by decide +kernel
theorem dX10_passes_117 : decode cX10_passes 117 = .ok (.aload_n 0, 1) := by decide +kernel
theorem dX10_passes_118 : decode cX10_passes 118 = .ok (.iload_n 1, 1) := by decide +kernel
theorem dX10_passes_119 : decode cX10_passes 119 = .ok (.iload_n 2, 1) := by decide +kernel
theorem dX10_passes_120 : decode cX10_passes 120 = .ok (.invokevirtual 268, 3) := by decide +kernel
theorem dX10_passes_123 : decode cX10_passes 123 = .ok (.if_icmp .ge 22, 3) := by decide +kernel
theorem dX10_passes_126 : decode cX10_passes 126 = .ok (.aload_n 0, 1) := by decide +kernel
theorem dX10_passes_127 : decode cX10_passes 127 = .ok (.iload_n 1, 1) := by decide +kernel
theorem dX10_passes_128 : decode cX10_passes 128 = .ok (.aload_n 0, 1) := by decide +kernel
theorem dX10_passes_129 : decode cX10_passes 129 = .ok (.iload_n 1, 1) := by decide +kernel
theorem dX10_passes_130 : decode cX10_passes 130 = .ok (.iload_n 2, 1) := by decide +kernel
theorem dX10_passes_131 : decode cX10_passes 131 = .ok (.iload 4, 2) := by decide +kernel
theorem dX10_passes_133 : decode cX10_passes 133 = .ok (.invokevirtual 271, 3) := by decide +kernel
theorem dX10_passes_136 : decode cX10_passes 136 = .ok (.invokevirtual 285, 3) := by decide +kernel
theorem dX10_passes_139 : decode cX10_passes 139 = .ok (.iinc 4 1, 3) := by decide +kernel
theorem dX10_passes_142 : decode cX10_passes 142 = .ok (.goto (-27), 3) := by decide +kernel
theorem dX10_passes_145 : decode cX10_passes 145 = .ok (.iload_n 3, 1) := by decide +kernel
theorem dX10_passes_146 : decode cX10_passes 146 = .ok (.bipush 20, 2) := by decide +kernel
theorem dX10_passes_148 : decode cX10_passes 148 = .ok (.if_icmp .eq 31, 3) := by decide +kernel
theorem dX10_passes_151 : decode cX10_passes 151 = .ok (.iload_n 3, 1) := by decide +kernel
theorem dX10_passes_152 : decode cX10_passes 152 = .ok (.bipush 84, 2) := by decide +kernel
theorem dX10_passes_154 : decode cX10_passes 154 = .ok (.if_icmp .eq 25, 3) := by decide +kernel
theorem dX10_passes_157 : decode cX10_passes 157 = .ok (.iload_n 3, 1) := by decide +kernel
theorem dX10_passes_158 : decode cX10_passes 158 = .ok (.bipush 33, 2) := by decide +kernel
theorem dX10_passes_160 : decode cX10_passes 160 = .ok (.if_icmp .eq 19, 3) := by decide +kernel
theorem dX10_passes_163 : decode cX10_passes 163 = .ok (.iload_n 3, 1) := by decide +kernel
theorem dX10_passes_164 : decode cX10_passes 164 = .ok (.bipush 41, 2) := by decide +kernel
theorem dX10_passes_166 : decode cX10_passes 166 = .ok (.if_icmp .eq 13, 3) := by decide +kernel
theorem dX10_passes_169 : decode cX10_passes 169 = .ok (.iload_n 3, 1) := by decide +kernel
theorem dX10_passes_170 : decode cX10_passes 170 = .ok (.bipush 42, 2) := by decide +kernel
theorem dX10_passes_172 : decode cX10_passes 172 = .ok (.if_icmp .eq 7, 3) := by decide +kernel
theorem dX10_passes_175 : decode cX10_passes 175 = .ok (.iconst 1, 1) := by decide +kernel
theorem dX10_passes_176 : decode cX10_passes 176 = .ok (.goto 4, 3) := by decide +kernel
theorem dX10_passes_179 : decode cX10_passes 179 = .ok (.iconst 0, 1) := by decide +kernel
theorem dX10_passes_180 : decode cX10_passes 180 = .ok (.istore 4, 2) := by decide +kernel
theorem dX10_passes_182 : decode cX10_passes 182 = .ok (.iload 4, 2) := by decide +kernel
theorem dX10_passes_184 : decode cX10_passes 184 = .ok (.ifCond .eq 16, 3) := by decide +kernel
theorem dX10_passes_187 : decode cX10_passes 187 = .ok (.aload_n 0, 1) := by decide +kernel
theorem dX10_passes_188 : decode cX10_passes 188 = .ok (.iload_n 1, 1) := by decide +kernel
theorem dX10_passes_189 : decode cX10_passes 189 = .ok (.iload_n 2, 1) := by decide +kernel
theorem dX10_passes_190 : decode cX10_passes 190 = .ok (.aload_n 0, 1) := by decide +kernel
theorem dX10_passes_191 : decode cX10_passes 191 = .ok (.iload_n 1, 1) := by decide +kernel
theorem dX10_passes_192 : decode cX10_passes 192 = .ok (.iload_n 2, 1) := by decide +kernel
theorem dX10_passes_193 : decode cX10_passes 193 = .ok (.invokevirtual 259, 3) := by decide +kernel
theorem dX10_passes_196 : decode cX10_passes 196 = .ok (.iadd, 1) := by decide +kernel
theorem dX10_passes_197 : decode cX10_passes 197 = .ok (.invokevirtual 285, 3) := by decide +kernel
theorem dX10_passes_200 : decode cX10_passes 200 = .ok (.return_, 1) := by decide +kernel
theorem dX10_pull_0 : decode cX10_pull 0 = .ok (.aload_n 0, 1) := by decide +kernel
theorem dX10_pull_1 : decode cX10_pull 1 = .ok (.getfield 282, 3) := by decide +kernel
theorem dX10_pull_4 : decode cX10_pull 4 = .ok (.ifCond .ne 10, 3) := by decide +kernel
theorem dX10_pull_7 : decode cX10_pull 7 = .ok (.aload_n 0, 1) := by decide +kernel
theorem dX10_pull_8 : decode cX10_pull 8 = .ok (.iconst 0, 1) := by decide +kernel
theorem dX10_pull_9 : decode cX10_pull 9 = .ok (.putfield 278, 3) := by decide +kernel
theorem dX10_pull_12 : decode cX10_pull 12 = .ok (.iconst 0, 1) := by decide +kernel
theorem dX10_pull_13 : decode cX10_pull 13 = .ok (.ireturn, 1) := by decide +kernel
theorem dX10_pull_14 : decode cX10_pull 14 = .ok (.aload_n 0, 1) := by decide +kernel
theorem dX10_pull_15 : decode cX10_pull 15 = .ok (.dup, 1) := by decide +kernel
theorem dX10_pull_16 : decode cX10_pull 16 = .ok (.getfield 282, 3) := by decide +kernel
theorem dX10_pull_19 : decode cX10_pull 19 = .ok (.iconst 1, 1) := by decide +kernel
theorem dX10_pull_20 : decode cX10_pull 20 = .ok (.isub, 1) := by decide +kernel
theorem dX10_pull_21 : decode cX10_pull 21 = .ok (.putfield 282, 3) := by decide +kernel
theorem dX10_pull_24 : decode cX10_pull 24 = .ok (.aload_n 0, 1) := by decide +kernel
theorem dX10_pull_25 : decode cX10_pull 25 = .ok (.getfield 111, 3) := by decide +kernel
theorem dX10_pull_28 : decode cX10_pull 28 = .ok (.aload_n 0, 1) := by decide +kernel
theorem dX10_pull_29 : decode cX10_pull 29 = .ok (.getfield 282, 3) := by decide +kernel
theorem dX10_pull_32 : decode cX10_pull 32 = .ok (.iaload, 1) := by decide +kernel
theorem dX10_pull_33 : decode cX10_pull 33 = .ok (.ireturn, 1) := by decide +kernel
theorem dX10_ints_0 : decode cX10_ints 0 = .ok (.iconst 0, 1) := by decide +kernel
theorem dX10_ints_1 : decode cX10_ints 1 = .ok (.istore_n 2, 1) := by decide +kernel
theorem dX10_ints_2 : decode cX10_ints 2 = .ok (.iload_n 2, 1) := by decide +kernel
theorem dX10_ints_3 : decode cX10_ints 3 = .ok (.iload_n 1, 1) := by decide +kernel
theorem dX10_ints_4 : decode cX10_ints 4 = .ok (.if_icmp .ge 33, 3) := by decide +kernel
theorem dX10_ints_7 : decode cX10_ints 7 = .ok (.aload_n 0, 1) := by decide +kernel
theorem dX10_ints_8 : decode cX10_ints 8 = .ok (.aload_n 0, 1) := by decide +kernel
theorem dX10_ints_9 : decode cX10_ints 9 = .ok (.invokevirtual 302, 3) := by decide +kernel
theorem dX10_ints_12 : decode cX10_ints 12 = .ok (.iconst 1, 1) := by decide +kernel
theorem dX10_ints_13 : decode cX10_ints 13 = .ok (.if_icmp .ne 14, 3) := by decide +kernel
theorem dX10_ints_16 : decode cX10_ints 16 = .ok (.aload_n 0, 1) := by decide +kernel
theorem dX10_ints_17 : decode cX10_ints 17 = .ok (.getfield 278, 3) := by decide +kernel
theorem dX10_ints_20 : decode cX10_ints 20 = .ok (.ifCond .eq 7, 3) := by decide +kernel
theorem dX10_ints_23 : decode cX10_ints 23 = .ok (.iconst 1, 1) := by decide +kernel
theorem dX10_ints_24 : decode cX10_ints 24 = .ok (.goto 4, 3) := by decide +kernel
theorem dX10_ints_27 : decode cX10_ints 27 = .ok (.iconst 0, 1) := by decide +kernel
theorem dX10_ints_28 : decode cX10_ints 28 = .ok (.putfield 278, 3) := by decide +kernel
theorem dX10_ints_31 : decode cX10_ints 31 = .ok (.iinc 2 1, 3) := by decide +kernel
theorem dX10_ints_34 : decode cX10_ints 34 = .ok (.goto (-32), 3) := by decide +kernel
theorem dX10_ints_37 : decode cX10_ints 37 = .ok (.return_, 1) := by decide +kernel
theorem dX10_push_0 : decode cX10_push 0 = .ok (.aload_n 0, 1) := by decide +kernel
theorem dX10_push_1 : decode cX10_push 1 = .ok (.aload_n 0, 1) := by decide +kernel
theorem dX10_push_2 : decode cX10_push 2 = .ok (.getfield 278, 3) := by decide +kernel
theorem dX10_push_5 : decode cX10_push 5 = .ok (.ifCond .eq 20, 3) := by decide +kernel
theorem dX10_push_8 : decode cX10_push 8 = .ok (.aload_n 0, 1) := by decide +kernel
theorem dX10_push_9 : decode cX10_push 9 = .ok (.getfield 282, 3) := by decide +kernel
theorem dX10_push_12 : decode cX10_push 12 = .ok (.bipush 10, 2) := by decide +kernel
theorem dX10_push_14 : decode cX10_push 14 = .ok (.if_icmp .ge 11, 3) := by decide +kernel
theorem dX10_push_17 : decode cX10_push 17 = .ok (.iload_n 1, 1) := by decide +kernel
theorem dX10_push_18 : decode cX10_push 18 = .ok (.ifCond .eq 7, 3) := by decide +kernel
theorem dX10_push_21 : decode cX10_push 21 = .ok (.iconst 1, 1) := by decide +kernel
theorem dX10_push_22 : decode cX10_push 22 = .ok (.goto 4, 3) := by decide +kernel
theorem dX10_push_25 : decode cX10_push 25 = .ok (.iconst 0, 1) := by decide +kernel
theorem dX10_push_26 : decode cX10_push 26 = .ok (.putfield 278, 3) := by decide +kernel
theorem dX10_push_29 : decode cX10_push 29 = .ok (.aload_n 0, 1) := by decide +kernel
theorem dX10_push_30 : decode cX10_push 30 = .ok (.getfield 111, 3) := by decide +kernel
theorem dX10_push_33 : decode cX10_push 33 = .ok (.aload_n 0, 1) := by decide +kernel
theorem dX10_push_34 : decode cX10_push 34 = .ok (.getfield 282, 3) := by decide +kernel
theorem dX10_push_37 : decode cX10_push 37 = .ok (.iload_n 1, 1) := by decide +kernel
theorem dX10_push_38 : decode cX10_push 38 = .ok (.iastore, 1) := by decide +kernel
theorem dX10_push_39 : decode cX10_push 39 = .ok (.aload_n 0, 1) := by decide +kernel
theorem dX10_push_40 : decode cX10_push 40 = .ok (.dup, 1) := by decide +kernel
theorem dX10_push_41 : decode cX10_push 41 = .ok (.getfield 282, 3) := by decide +kernel
theorem dX10_push_44 : decode cX10_push 44 = .ok (.iconst 1, 1) := by decide +kernel
theorem dX10_push_45 : decode cX10_push 45 = .ok (.iadd, 1) := by decide +kernel
theorem dX10_push_46 : decode cX10_push 46 = .ok (.putfield 282, 3) := by decide +kernel
theorem dX10_push_49 : decode cX10_push 49 = .ok (.return_, 1) := by decide +kernel
theorem dX10_effect_0 : decode cX10_effect 0 = .ok (.aload_n 0, 1) := by decide +kernel
theorem dX10_effect_1 : decode cX10_effect 1 = .ok (.getfield 26, 3) := by decide +kernel
theorem dX10_effect_4 : decode cX10_effect 4 = .ok (.sipush 400, 3) := by decide +kernel
theorem dX10_effect_7 : decode cX10_effect 7 = .ok (.iload_n 1, 1) := by decide +kernel
theorem dX10_effect_8 : decode cX10_effect 8 = .ok (.imul, 1) := by decide +kernel
theorem dX10_effect_9 : decode cX10_effect 9 = .ok (.iload_n 2, 1) := by decide +kernel
theorem dX10_effect_10 : decode cX10_effect 10 = .ok (.iadd, 1) := by decide +kernel
theorem dX10_effect_11 : decode cX10_effect 11 = .ok (.aload_n 0, 1) := by decide +kernel
theorem dX10_effect_12 : decode cX10_effect 12 = .ok (.iload_n 1, 1) := by decide +kernel
theorem dX10_effect_13 : decode cX10_effect 13 = .ok (.iload_n 2, 1) := by decide +kernel
theorem dX10_effect_14 : decode cX10_effect 14 = .ok (.invokevirtual 259, 3) := by decide +kernel
theorem dX10_effect_17 : decode cX10_effect 17 = .ok (.iconst 1, 1) := by decide +kernel
theorem dX10_effect_18 : decode cX10_effect 18 = .ok (.if_icmp .le 7, 3) := by decide +kernel
theorem dX10_effect_21 : decode cX10_effect 21 = .ok (.iconst 1, 1) := by decide +kernel
theorem dX10_effect_22 : decode cX10_effect 22 = .ok (.goto 4, 3) := by decide +kernel
theorem dX10_effect_25 : decode cX10_effect 25 = .ok (.iconst 0, 1) := by decide +kernel
theorem dX10_effect_26 : decode cX10_effect 26 = .ok (.iadd, 1) := by decide +kernel
theorem dX10_effect_27 : decode cX10_effect 27 = .ok (.iaload, 1) := by decide +kernel
theorem dX10_effect_28 : decode cX10_effect 28 = .ok (.istore 4, 2) := by decide +kernel
theorem dX10_effect_30 : decode cX10_effect 30 = .ok (.iload_n 3, 1) := by decide +kernel
theorem dX10_effect_31 : decode cX10_effect 31 = .ok (.iconst 3, 1) := by decide +kernel
theorem dX10_effect_32 : decode cX10_effect 32 = .ok (.if_icmp .ne 17, 3) := by decide +kernel
theorem dX10_effect_35 : decode cX10_effect 35 = .ok (.aload_n 0, 1) := by decide +kernel
theorem dX10_effect_36 : decode cX10_effect 36 = .ok (.aload_n 0, 1) := by decide +kernel
theorem dX10_effect_37 : decode cX10_effect 37 = .ok (.getfield 108, 3) := by decide +kernel
theorem dX10_effect_40 : decode cX10_effect 40 = .ok (.iload 4, 2) := by decide +kernel
theorem dX10_effect_42 : decode cX10_effect 42 = .ok (.iaload, 1) := by decide +kernel
theorem dX10_effect_43 : decode cX10_effect 43 = .ok (.invokevirtual 306, 3) := by decide +kernel
theorem dX10_effect_46 : decode cX10_effect 46 = .ok (.goto 230, 3) := by decide +kernel
theorem dX10_effect_49 : decode cX10_effect 49 = .ok (.iload_n 3, 1) := by decide +kernel
theorem dX10_effect_50 : decode cX10_effect 50 = .ok (.iconst 4, 1) := by decide +kernel
theorem dX10_effect_51 : decode cX10_effect 51 = .ok (.if_icmp .ne 17, 3) := by decide +kernel
theorem dX10_effect_54 : decode cX10_effect 54 = .ok (.aload_n 0, 1) := by decide +kernel
theorem dX10_effect_55 : decode cX10_effect 55 = .ok (.getfield 108, 3) := by decide +kernel
theorem dX10_effect_58 : decode cX10_effect 58 = .ok (.iload 4, 2) := by decide +kernel
theorem dX10_effect_60 : decode cX10_effect 60 = .ok (.aload_n 0, 1) := by decide +kernel
theorem dX10_effect_61 : decode cX10_effect 61 = .ok (.invokevirtual 302, 3) := by decide +kernel
theorem dX10_effect_64 : decode cX10_effect 64 = .ok (.iastore, 1) := by decide +kernel
theorem dX10_effect_65 : decode cX10_effect 65 = .ok (.goto 211, 3) := by decide +kernel
theorem dX10_effect_68 : decode cX10_effect 68 = .ok (.iload_n 3, 1) := by decide +kernel
theorem dX10_effect_69 : decode cX10_effect 69 = .ok (.iconst 5, 1) := by decide +kernel
theorem dX10_effect_70 : decode cX10_effect 70 = .ok (.if_icmp .ne 33, 3) := by decide +kernel
theorem dX10_effect_73 : decode cX10_effect 73 = .ok (.aload_n 0, 1) := by decide +kernel
theorem dX10_effect_74 : decode cX10_effect 74 = .ok (.aload_n 0, 1) := by decide +kernel
theorem dX10_effect_75 : decode cX10_effect 75 = .ok (.getfield 278, 3) := by decide +kernel
theorem dX10_effect_78 : decode cX10_effect 78 = .ok (.ifCond .eq 18, 3) := by decide +kernel
theorem dX10_effect_81 : decode cX10_effect 81 = .ok (.aload_n 0, 1) := by decide +kernel
theorem dX10_effect_82 : decode cX10_effect 82 = .ok (.getfield 108, 3) := by decide +kernel
theorem dX10_effect_85 : decode cX10_effect 85 = .ok (.iload 4, 2) := by decide +kernel
theorem dX10_effect_87 : decode cX10_effect 87 = .ok (.iaload, 1) := by decide +kernel
theorem dX10_effect_88 : decode cX10_effect 88 = .ok (.iconst 1, 1) := by decide +kernel
theorem dX10_effect_89 : decode cX10_effect 89 = .ok (.if_icmp .ne 7, 3) := by decide +kernel
theorem dX10_effect_92 : decode cX10_effect 92 = .ok (.iconst 1, 1) := by decide +kernel
theorem dX10_effect_93 : decode cX10_effect 93 = .ok (.goto 4, 3) := by decide +kernel
theorem dX10_effect_96 : decode cX10_effect 96 = .ok (.iconst 0, 1) := by decide +kernel
theorem dX10_effect_97 : decode cX10_effect 97 = .ok (.putfield 278, 3) := by decide +kernel
theorem dX10_effect_100 : decode cX10_effect 100 = .ok (.goto 176, 3) := by decide +kernel
theorem dX10_effect_103 : decode cX10_effect 103 = .ok (.iload_n 3, 1) := by decide +kernel
theorem dX10_effect_104 : decode cX10_effect 104 = .ok (.bipush 6, 2) := by decide +kernel
theorem dX10_effect_106 : decode cX10_effect 106 = .ok (.if_icmp .ne 24, 3) := by decide +kernel
theorem dX10_effect_109 : decode cX10_effect 109 = .ok (.aload_n 0, 1) := by decide +kernel
theorem dX10_effect_110 : decode cX10_effect 110 = .ok (.invokevirtual 302, 3) := by decide +kernel
theorem dX10_effect_113 : decode cX10_effect 113 = .ok (.istore 5, 2) := by decide +kernel
theorem dX10_effect_115 : decode cX10_effect 115 = .ok (.aload_n 0, 1) := by decide +kernel
theorem dX10_effect_116 : decode cX10_effect 116 = .ok (.iload 5, 2) := by decide +kernel
theorem dX10_effect_118 : decode cX10_effect 118 = .ok (.invokevirtual 306, 3) := by decide +kernel
theorem dX10_effect_121 : decode cX10_effect 121 = .ok (.aload_n 0, 1) := by decide +kernel
theorem dX10_effect_122 : decode cX10_effect 122 = .ok (.iload 5, 2) := by decide +kernel
theorem dX10_effect_124 : decode cX10_effect 124 = .ok (.invokevirtual 306, 3) := by decide +kernel
theorem dX10_effect_127 : decode cX10_effect 127 = .ok (.goto 149, 3) := by decide +kernel
theorem dX10_effect_130 : decode cX10_effect 130 = .ok (.iload_n 3, 1) := by decide +kernel
theorem dX10_effect_131 : decode cX10_effect 131 = .ok (.bipush 7, 2) := by decide +kernel
theorem dX10_effect_133 : decode cX10_effect 133 = .ok (.if_icmp .ne 11, 3) := by decide +kernel
theorem dX10_effect_136 : decode cX10_effect 136 = .ok (.aload_n 0, 1) := by decide +kernel
theorem dX10_effect_137 : decode cX10_effect 137 = .ok (.invokevirtual 302, 3) := by decide +kernel
theorem dX10_effect_140 : decode cX10_effect 140 = .ok (.pop, 1) := by decide +kernel
theorem dX10_effect_141 : decode cX10_effect 141 = .ok (.goto 135, 3) := by decide +kernel
theorem dX10_effect_144 : decode cX10_effect 144 = .ok (.iload_n 3, 1) := by decide +kernel
theorem dX10_effect_145 : decode cX10_effect 145 = .ok (.bipush 8, 2) := by decide +kernel
theorem dX10_effect_147 : decode cX10_effect 147 = .ok (.if_icmp .ne 30, 3) := by decide +kernel
theorem dX10_effect_150 : decode cX10_effect 150 = .ok (.aload_n 0, 1) := by decide +kernel
theorem dX10_effect_151 : decode cX10_effect 151 = .ok (.invokevirtual 302, 3) := by decide +kernel
theorem dX10_effect_154 : decode cX10_effect 154 = .ok (.istore 5, 2) := by decide +kernel
theorem dX10_effect_156 : decode cX10_effect 156 = .ok (.aload_n 0, 1) := by decide +kernel
theorem dX10_effect_157 : decode cX10_effect 157 = .ok (.invokevirtual 302, 3) := by decide +kernel
theorem dX10_effect_160 : decode cX10_effect 160 = .ok (.istore 6, 2) := by decide +kernel
theorem dX10_effect_162 : decode cX10_effect 162 = .ok (.aload_n 0, 1) := by decide +kernel
theorem dX10_effect_163 : decode cX10_effect 163 = .ok (.iload 5, 2) := by decide +kernel
theorem dX10_effect_165 : decode cX10_effect 165 = .ok (.invokevirtual 306, 3) := by decide +kernel
theorem dX10_effect_168 : decode cX10_effect 168 = .ok (.aload_n 0, 1) := by decide +kernel
theorem dX10_effect_169 : decode cX10_effect 169 = .ok (.iload 6, 2) := by decide +kernel
theorem dX10_effect_171 : decode cX10_effect 171 = .ok (.invokevirtual 306, 3) := by decide +kernel
theorem dX10_effect_174 : decode cX10_effect 174 = .ok (.goto 102, 3) := by decide +kernel
theorem dX10_effect_177 : decode cX10_effect 177 = .ok (.iload_n 3, 1) := by decide +kernel
theorem dX10_effect_178 : decode cX10_effect 178 = .ok (.bipush 40, 2) := by decide +kernel
theorem dX10_effect_180 : decode cX10_effect 180 = .ok (.if_icmp .ne 37, 3) := by decide +kernel
theorem dX10_effect_183 : decode cX10_effect 183 = .ok (.aload_n 0, 1) := by decide +kernel
theorem dX10_effect_184 : decode cX10_effect 184 = .ok (.iload 4, 2) := by decide +kernel
theorem dX10_effect_186 : decode cX10_effect 186 = .ok (.iload_n 1, 1) := by decide +kernel
theorem dX10_effect_187 : decode cX10_effect 187 = .ok (.if_icmp .ne 12, 3) := by decide +kernel
theorem dX10_effect_190 : decode cX10_effect 190 = .ok (.aload_n 0, 1) := by decide +kernel
theorem dX10_effect_191 : decode cX10_effect 191 = .ok (.getfield 17, 3) := by decide +kernel
theorem dX10_effect_194 : decode cX10_effect 194 = .ok (.iload_n 1, 1) := by decide +kernel
theorem dX10_effect_195 : decode cX10_effect 195 = .ok (.iaload, 1) := by decide +kernel
theorem dX10_effect_196 : decode cX10_effect 196 = .ok (.goto 10, 3) := by decide +kernel
theorem dX10_effect_199 : decode cX10_effect 199 = .ok (.aload_n 0, 1) := by decide +kernel
theorem dX10_effect_200 : decode cX10_effect 200 = .ok (.getfield 17, 3) := by decide +kernel
theorem dX10_effect_203 : decode cX10_effect 203 = .ok (.iload 4, 2) := by decide +kernel
theorem dX10_effect_205 : decode cX10_effect 205 = .ok (.iaload, 1) := by decide +kernel
theorem dX10_effect_206 : decode cX10_effect 206 = .ok (.invokevirtual 309, 3) := by decide +kernel
theorem dX10_effect_209 : decode cX10_effect 209 = .ok (.aload_n 0, 1) := by decide +kernel
theorem dX10_effect_210 : decode cX10_effect 210 = .ok (.iconst 1, 1) := by decide +kernel
theorem dX10_effect_211 : decode cX10_effect 211 = .ok (.invokevirtual 306, 3) := by decide +kernel
theorem dX10_effect_214 : decode cX10_effect 214 = .ok (.goto 62, 3) := by decide +kernel
theorem dX10_effect_217 : decode cX10_effect 217 = .ok (.iload_n 3, 1) := by decide +kernel
theorem dX10_effect_218 : decode cX10_effect 218 = .ok (.bipush 36, 2) := by decide +kernel
theorem dX10_effect_220 : decode cX10_effect 220 = .ok (.bipush 39, 2) := by decide +kernel
theorem dX10_effect_222 : decode cX10_effect 222 = .ok (.invokestatic 217, 3) := by decide +kernel
theorem dX10_effect_225 : decode cX10_effect 225 = .ok (.ifCond .eq 11, 3) := by decide +kernel
theorem dX10_effect_228 : decode cX10_effect 228 = .ok (.aload_n 0, 1) := by decide +kernel
theorem dX10_effect_229 : decode cX10_effect 229 = .ok (.iload_n 3, 1) := by decide +kernel
theorem dX10_effect_230 : decode cX10_effect 230 = .ok (.invokevirtual 312, 3) := by decide +kernel
theorem dX10_effect_233 : decode cX10_effect 233 = .ok (.goto 43, 3) := by decide +kernel
theorem dX10_effect_236 : decode cX10_effect 236 = .ok (.aload_n 0, 1) := by decide +kernel
theorem dX10_effect_237 : decode cX10_effect 237 = .ok (.iload_n 3, 1) := by decide +kernel
theorem dX10_effect_238 : decode cX10_effect 238 = .ok (.invokestatic 315, 3) := by decide +kernel
theorem dX10_effect_241 : decode cX10_effect 241 = .ok (.invokevirtual 309, 3) := by decide +kernel
theorem dX10_effect_244 : decode cX10_effect 244 = .ok (.iload_n 3, 1) := by decide +kernel
theorem dX10_effect_245 : decode cX10_effect 245 = .ok (.iconst 1, 1) := by decide +kernel
theorem dX10_effect_246 : decode cX10_effect 246 = .ok (.if_icmp .eq 25, 3) := by decide +kernel
theorem dX10_effect_249 : decode cX10_effect 249 = .ok (.iload_n 3, 1) := by decide +kernel
theorem dX10_effect_250 : decode cX10_effect 250 = .ok (.iconst 2, 1) := by decide +kernel
theorem dX10_effect_251 : decode cX10_effect 251 = .ok (.if_icmp .eq 20, 3) := by decide +kernel
theorem dX10_effect_254 : decode cX10_effect 254 = .ok (.iload_n 3, 1) := by decide +kernel
theorem dX10_effect_255 : decode cX10_effect 255 = .ok (.bipush 9, 2) := by decide +kernel
theorem dX10_effect_257 : decode cX10_effect 257 = .ok (.bipush 19, 2) := by decide +kernel
theorem dX10_effect_259 : decode cX10_effect 259 = .ok (.invokestatic 217, 3) := by decide +kernel
theorem dX10_effect_262 : decode cX10_effect 262 = .ok (.ifCond .ne 9, 3) := by decide +kernel
theorem dX10_effect_265 : decode cX10_effect 265 = .ok (.iload_n 3, 1) := by decide +kernel
theorem dX10_effect_266 : decode cX10_effect 266 = .ok (.bipush 34, 2) := by decide +kernel
theorem dX10_effect_268 : decode cX10_effect 268 = .ok (.if_icmp .ne 8, 3) := by decide +kernel
theorem dX10_effect_271 : decode cX10_effect 271 = .ok (.aload_n 0, 1) := by decide +kernel
theorem dX10_effect_272 : decode cX10_effect 272 = .ok (.iconst 1, 1) := by decide +kernel
theorem dX10_effect_273 : decode cX10_effect 273 = .ok (.invokevirtual 306, 3) := by decide +kernel
theorem dX10_effect_276 : decode cX10_effect 276 = .ok (.return_, 1) := by decide +kernel
theorem dX10_taken_0 : decode cX10_taken 0 = .ok (.iload_n 0, 1) := by decide +kernel
theorem dX10_taken_1 : decode cX10_taken 1 = .ok (.bipush 9, 2) := by decide +kernel
theorem dX10_taken_3 : decode cX10_taken 3 = .ok (.bipush 18, 2) := by decide +kernel
theorem dX10_taken_5 : decode cX10_taken 5 = .ok (.invokestatic 217, 3) := by decide +kernel
theorem dX10_taken_8 : decode cX10_taken 8 = .ok (.ifCond .ne 25, 3) := by decide +kernel
theorem dX10_taken_11 : decode cX10_taken 11 = .ok (.iload_n 0, 1) := by decide +kernel
theorem dX10_taken_12 : decode cX10_taken 12 = .ok (.bipush 27, 2) := by decide +kernel
theorem dX10_taken_14 : decode cX10_taken 14 = .ok (.bipush 32, 2) := by decide +kernel
theorem dX10_taken_16 : decode cX10_taken 16 = .ok (.invokestatic 217, 3) := by decide +kernel
theorem dX10_taken_19 : decode cX10_taken 19 = .ok (.ifCond .ne 14, 3) := by decide +kernel
theorem dX10_taken_22 : decode cX10_taken 22 = .ok (.iload_n 0, 1) := by decide +kernel
theorem dX10_taken_23 : decode cX10_taken 23 = .ok (.bipush 91, 2) := by decide +kernel
theorem dX10_taken_25 : decode cX10_taken 25 = .ok (.bipush 96, 2) := by decide +kernel
theorem dX10_taken_27 : decode cX10_taken 27 = .ok (.invokestatic 217, 3) := by decide +kernel
theorem dX10_taken_30 : decode cX10_taken 30 = .ok (.ifCond .eq 5, 3) := by decide +kernel
theorem dX10_taken_33 : decode cX10_taken 33 = .ok (.iconst 2, 1) := by decide +kernel
theorem dX10_taken_34 : decode cX10_taken 34 = .ok (.ireturn, 1) := by decide +kernel
theorem dX10_taken_35 : decode cX10_taken 35 = .ok (.iload_n 0, 1) := by decide +kernel
theorem dX10_taken_36 : decode cX10_taken 36 = .ok (.bipush 19, 2) := by decide +kernel
theorem dX10_taken_38 : decode cX10_taken 38 = .ok (.if_icmp .eq 48, 3) := by decide +kernel
theorem dX10_taken_41 : decode cX10_taken 41 = .ok (.iload_n 0, 1) := by decide +kernel
theorem dX10_taken_42 : decode cX10_taken 42 = .ok (.bipush 21, 2) := by decide +kernel
theorem dX10_taken_44 : decode cX10_taken 44 = .ok (.bipush 26, 2) := by decide +kernel
theorem dX10_taken_46 : decode cX10_taken 46 = .ok (.invokestatic 217, 3) := by decide +kernel
theorem dX10_taken_49 : decode cX10_taken 49 = .ok (.ifCond .ne 37, 3) := by decide +kernel
theorem dX10_taken_52 : decode cX10_taken 52 = .ok (.iload_n 0, 1) := by decide +kernel
theorem dX10_taken_53 : decode cX10_taken 53 = .ok (.bipush 85, 2) := by decide +kernel
theorem dX10_taken_55 : decode cX10_taken 55 = .ok (.bipush 90, 2) := by decide +kernel
theorem dX10_taken_57 : decode cX10_taken 57 = .ok (.invokestatic 217, 3) := by decide +kernel
theorem dX10_taken_60 : decode cX10_taken 60 = .ok (.ifCond .ne 26, 3) := by decide +kernel
theorem dX10_taken_63 : decode cX10_taken 63 = .ok (.iload_n 0, 1) := by decide +kernel
theorem dX10_taken_64 : decode cX10_taken 64 = .ok (.bipush 33, 2) := by decide +kernel
theorem dX10_taken_66 : decode cX10_taken 66 = .ok (.if_icmp .eq 20, 3) := by decide +kernel
theorem dX10_taken_69 : decode cX10_taken 69 = .ok (.iload_n 0, 1) := by decide +kernel
theorem dX10_taken_70 : decode cX10_taken 70 = .ok (.bipush 35, 2) := by decide +kernel
theorem dX10_taken_72 : decode cX10_taken 72 = .ok (.if_icmp .eq 14, 3) := by decide +kernel
theorem dX10_taken_75 : decode cX10_taken 75 = .ok (.iload_n 0, 1) := by decide +kernel
theorem dX10_taken_76 : decode cX10_taken 76 = .ok (.bipush 41, 2) := by decide +kernel
theorem dX10_taken_78 : decode cX10_taken 78 = .ok (.bipush 43, 2) := by decide +kernel
theorem dX10_taken_80 : decode cX10_taken 80 = .ok (.invokestatic 217, 3) := by decide +kernel
theorem dX10_taken_83 : decode cX10_taken 83 = .ok (.ifCond .eq 7, 3) := by decide +kernel
theorem dX10_taken_86 : decode cX10_taken 86 = .ok (.iconst 1, 1) := by decide +kernel
theorem dX10_taken_87 : decode cX10_taken 87 = .ok (.goto 4, 3) := by decide +kernel
theorem dX10_taken_90 : decode cX10_taken 90 = .ok (.iconst 0, 1) := by decide +kernel
theorem dX10_taken_91 : decode cX10_taken 91 = .ok (.istore_n 1, 1) := by decide +kernel
theorem dX10_taken_92 : decode cX10_taken 92 = .ok (.iload_n 1, 1) := by decide +kernel
theorem dX10_taken_93 : decode cX10_taken 93 = .ok (.ifCond .eq 7, 3) := by decide +kernel
theorem dX10_taken_96 : decode cX10_taken 96 = .ok (.iconst 1, 1) := by decide +kernel
theorem dX10_taken_97 : decode cX10_taken 97 = .ok (.goto 4, 3) := by decide +kernel
theorem dX10_taken_100 : decode cX10_taken 100 = .ok (.iconst 0, 1) := by decide +kernel
theorem dX10_taken_101 : decode cX10_taken 101 = .ok (.ireturn, 1) := by decide +kernel
theorem dX10_rows_0 : decode cX10_rows 0 = .ok (.iload_n 1, 1) := by decide +kernel
theorem dX10_rows_1 : decode cX10_rows 1 = .ok (.bipush 36, 2) := by decide +kernel
theorem dX10_rows_3 : decode cX10_rows 3 = .ok (.if_icmp .ne 14, 3) := by decide +kernel
theorem dX10_rows_6 : decode cX10_rows 6 = .ok (.aload_n 0, 1) := by decide +kernel
theorem dX10_rows_7 : decode cX10_rows 7 = .ok (.iconst 1, 1) := by decide +kernel
theorem dX10_rows_8 : decode cX10_rows 8 = .ok (.invokevirtual 309, 3) := by decide +kernel
theorem dX10_rows_11 : decode cX10_rows 11 = .ok (.aload_n 0, 1) := by decide +kernel
theorem dX10_rows_12 : decode cX10_rows 12 = .ok (.iconst 2, 1) := by decide +kernel
theorem dX10_rows_13 : decode cX10_rows 13 = .ok (.invokevirtual 306, 3) := by decide +kernel
theorem dX10_rows_16 : decode cX10_rows 16 = .ok (.return_, 1) := by decide +kernel
theorem dX10_rows_17 : decode cX10_rows 17 = .ok (.aload_n 0, 1) := by decide +kernel
theorem dX10_rows_18 : decode cX10_rows 18 = .ok (.iload_n 1, 1) := by decide +kernel
theorem dX10_rows_19 : decode cX10_rows 19 = .ok (.bipush 37, 2) := by decide +kernel
theorem dX10_rows_21 : decode cX10_rows 21 = .ok (.if_icmp .ne 7, 3) := by decide +kernel
theorem dX10_rows_24 : decode cX10_rows 24 = .ok (.iconst 0, 1) := by decide +kernel
theorem dX10_rows_25 : decode cX10_rows 25 = .ok (.goto 7, 3) := by decide +kernel
theorem dX10_rows_28 : decode cX10_rows 28 = .ok (.iload_n 1, 1) := by decide +kernel
theorem dX10_rows_29 : decode cX10_rows 29 = .ok (.bipush 37, 2) := by decide +kernel
theorem dX10_rows_31 : decode cX10_rows 31 = .ok (.isub, 1) := by decide +kernel
theorem dX10_rows_32 : decode cX10_rows 32 = .ok (.invokevirtual 309, 3) := by decide +kernel
theorem dX10_rows_35 : decode cX10_rows 35 = .ok (.aload_n 0, 1) := by decide +kernel
theorem dX10_rows_36 : decode cX10_rows 36 = .ok (.aload_n 0, 1) := by decide +kernel
theorem dX10_rows_37 : decode cX10_rows 37 = .ok (.invokevirtual 302, 3) := by decide +kernel
theorem dX10_rows_40 : decode cX10_rows 40 = .ok (.iconst 2, 1) := by decide +kernel
theorem dX10_rows_41 : decode cX10_rows 41 = .ok (.if_icmp .ne 14, 3) := by decide +kernel
theorem dX10_rows_44 : decode cX10_rows 44 = .ok (.aload_n 0, 1) := by decide +kernel
theorem dX10_rows_45 : decode cX10_rows 45 = .ok (.getfield 278, 3) := by decide +kernel
theorem dX10_rows_48 : decode cX10_rows 48 = .ok (.ifCond .eq 7, 3) := by decide +kernel
theorem dX10_rows_51 : decode cX10_rows 51 = .ok (.iconst 1, 1) := by decide +kernel
theorem dX10_rows_52 : decode cX10_rows 52 = .ok (.goto 4, 3) := by decide +kernel
theorem dX10_rows_55 : decode cX10_rows 55 = .ok (.iconst 0, 1) := by decide +kernel
theorem dX10_rows_56 : decode cX10_rows 56 = .ok (.putfield 278, 3) := by decide +kernel
theorem dX10_rows_59 : decode cX10_rows 59 = .ok (.iload_n 1, 1) := by decide +kernel
theorem dX10_rows_60 : decode cX10_rows 60 = .ok (.bipush 39, 2) := by decide +kernel
theorem dX10_rows_62 : decode cX10_rows 62 = .ok (.if_icmp .eq 8, 3) := by decide +kernel
theorem dX10_rows_65 : decode cX10_rows 65 = .ok (.aload_n 0, 1) := by decide +kernel
theorem dX10_rows_66 : decode cX10_rows 66 = .ok (.iconst 1, 1) := by decide +kernel
theorem dX10_rows_67 : decode cX10_rows 67 = .ok (.invokevirtual 306, 3) := by decide +kernel
theorem dX10_rows_70 : decode cX10_rows 70 = .ok (.return_, 1) := by decide +kernel
theorem dX10_isMethod_0 : decode cX10_isMethod 0 = .ok (.iload_n 1, 1) := by decide +kernel
theorem dX10_isMethod_1 : decode cX10_isMethod 1 = .ok (.iconst 0, 1) := by decide +kernel
theorem dX10_isMethod_2 : decode cX10_isMethod 2 = .ok (.aload_n 0, 1) := by decide +kernel
theorem dX10_isMethod_3 : decode cX10_isMethod 3 = .ok (.getfield 237, 3) := by decide +kernel
theorem dX10_isMethod_6 : decode cX10_isMethod 6 = .ok (.iconst 1, 1) := by decide +kernel
theorem dX10_isMethod_7 : decode cX10_isMethod 7 = .ok (.isub, 1) := by decide +kernel
theorem dX10_isMethod_8 : decode cX10_isMethod 8 = .ok (.invokestatic 217, 3) := by decide +kernel
theorem dX10_isMethod_11 : decode cX10_isMethod 11 = .ok (.ireturn, 1) := by decide +kernel
theorem dX10_isWoven_0 : decode cX10_isWoven 0 = .ok (.aload_n 0, 1) := by decide +kernel
theorem dX10_isWoven_1 : decode cX10_isWoven 1 = .ok (.getfield 72, 3) := by decide +kernel
theorem dX10_isWoven_4 : decode cX10_isWoven 4 = .ok (.iload_n 1, 1) := by decide +kernel
theorem dX10_isWoven_5 : decode cX10_isWoven 5 = .ok (.iaload, 1) := by decide +kernel
theorem dX10_isWoven_6 : decode cX10_isWoven 6 = .ok (.ifCond .lt 7, 3) := by decide +kernel
theorem dX10_isWoven_9 : decode cX10_isWoven 9 = .ok (.iconst 1, 1) := by decide +kernel
theorem dX10_isWoven_10 : decode cX10_isWoven 10 = .ok (.goto 4, 3) := by decide +kernel
theorem dX10_isWoven_13 : decode cX10_isWoven 13 = .ok (.iconst 0, 1) := by decide +kernel
theorem dX10_isWoven_14 : decode cX10_isWoven 14 = .ok (.ireturn, 1) := by decide +kernel
theorem dX10_method_0 : decode cX10_method 0 = .ok (.aload_n 0, 1) := by decide +kernel
theorem dX10_method_1 : decode cX10_method 1 = .ok (.iload_n 1, 1) := by decide +kernel
theorem dX10_method_2 : decode cX10_method 2 = .ok (.invokevirtual 318, 3) := by decide +kernel
theorem dX10_method_5 : decode cX10_method 5 = .ok (.ifCond .eq 13, 3) := by decide +kernel
theorem dX10_method_8 : decode cX10_method 8 = .ok (.iload_n 2, 1) := by decide +kernel
theorem dX10_method_9 : decode cX10_method 9 = .ok (.iconst 0, 1) := by decide +kernel
theorem dX10_method_10 : decode cX10_method 10 = .ok (.bipush 9, 2) := by decide +kernel
theorem dX10_method_12 : decode cX10_method 12 = .ok (.invokestatic 217, 3) := by decide +kernel
theorem dX10_method_15 : decode cX10_method 15 = .ok (.ifCond .ne 6, 3) := by decide +kernel
theorem dX10_method_18 : decode cX10_method 18 = .ok (.bipush (-2), 2) := by decide +kernel
theorem dX10_method_20 : decode cX10_method 20 = .ok (.ireturn, 1) := by decide +kernel
theorem dX10_method_21 : decode cX10_method 21 = .ok (.iload_n 2, 1) := by decide +kernel
theorem dX10_method_22 : decode cX10_method 22 = .ok (.tableswitch 82 0 5 #[38, 45, 52, 59, 66, 66], 38) := by decide +kernel
theorem dX10_method_60 : decode cX10_method 60 = .ok (.aload_n 0, 1) := by decide +kernel
theorem dX10_method_61 : decode cX10_method 61 = .ok (.getfield 17, 3) := by decide +kernel
theorem dX10_method_64 : decode cX10_method 64 = .ok (.iload_n 1, 1) := by decide +kernel
theorem dX10_method_65 : decode cX10_method 65 = .ok (.iaload, 1) := by decide +kernel
theorem dX10_method_66 : decode cX10_method 66 = .ok (.ireturn, 1) := by decide +kernel
theorem dX10_method_67 : decode cX10_method 67 = .ok (.aload_n 0, 1) := by decide +kernel
theorem dX10_method_68 : decode cX10_method 68 = .ok (.getfield 20, 3) := by decide +kernel
theorem dX10_method_71 : decode cX10_method 71 = .ok (.iload_n 1, 1) := by decide +kernel
theorem dX10_method_72 : decode cX10_method 72 = .ok (.iaload, 1) := by decide +kernel
theorem dX10_method_73 : decode cX10_method 73 = .ok (.ireturn, 1) := by decide +kernel
theorem dX10_method_74 : decode cX10_method 74 = .ok (.aload_n 0, 1) := by decide +kernel
theorem dX10_method_75 : decode cX10_method 75 = .ok (.getfield 23, 3) := by decide +kernel
theorem dX10_method_78 : decode cX10_method 78 = .ok (.iload_n 1, 1) := by decide +kernel
theorem dX10_method_79 : decode cX10_method 79 = .ok (.iaload, 1) := by decide +kernel
theorem dX10_method_80 : decode cX10_method 80 = .ok (.ireturn, 1) := by decide +kernel
theorem dX10_method_81 : decode cX10_method 81 = .ok (.aload_n 0, 1) := by decide +kernel
theorem dX10_method_82 : decode cX10_method 82 = .ok (.getfield 29, 3) := by decide +kernel
theorem dX10_method_85 : decode cX10_method 85 = .ok (.iload_n 1, 1) := by decide +kernel
theorem dX10_method_86 : decode cX10_method 86 = .ok (.iaload, 1) := by decide +kernel
theorem dX10_method_87 : decode cX10_method 87 = .ok (.ireturn, 1) := by decide +kernel
theorem dX10_method_88 : decode cX10_method 88 = .ok (.aload_n 0, 1) := by decide +kernel
theorem dX10_method_89 : decode cX10_method 89 = .ok (.iload_n 1, 1) := by decide +kernel
theorem dX10_method_90 : decode cX10_method 90 = .ok (.iload_n 2, 1) := by decide +kernel
theorem dX10_method_91 : decode cX10_method 91 = .ok (.iconst 5, 1) := by decide +kernel
theorem dX10_method_92 : decode cX10_method 92 = .ok (.if_icmp .ne 7, 3) := by decide +kernel
theorem dX10_method_95 : decode cX10_method 95 = .ok (.iconst 1, 1) := by decide +kernel
theorem dX10_method_96 : decode cX10_method 96 = .ok (.goto 4, 3) := by decide +kernel
theorem dX10_method_99 : decode cX10_method 99 = .ok (.iconst 0, 1) := by decide +kernel
theorem dX10_method_100 : decode cX10_method 100 = .ok (.invokevirtual 321, 3) := by decide +kernel
theorem dX10_method_103 : decode cX10_method 103 = .ok (.ireturn, 1) := by decide +kernel
theorem dX10_method_104 : decode cX10_method 104 = .ok (.aload_n 0, 1) := by decide +kernel
theorem dX10_method_105 : decode cX10_method 105 = .ok (.iload_n 1, 1) := by decide +kernel
theorem dX10_method_106 : decode cX10_method 106 = .ok (.invokevirtual 325, 3) := by decide +kernel
theorem dX10_method_109 : decode cX10_method 109 = .ok (.ifCond .ne 5, 3) := by decide +kernel
theorem dX10_method_112 : decode cX10_method 112 = .ok (.iconst (-1), 1) := by decide +kernel
theorem dX10_method_113 : decode cX10_method 113 = .ok (.ireturn, 1) := by decide +kernel
theorem dX10_method_114 : decode cX10_method 114 = .ok (.iload_n 2, 1) := by decide +kernel
theorem dX10_method_115 : decode cX10_method 115 = .ok (.bipush 6, 2) := by decide +kernel
theorem dX10_method_117 : decode cX10_method 117 = .ok (.if_icmp .ne 12, 3) := by decide +kernel
theorem dX10_method_120 : decode cX10_method 120 = .ok (.aload_n 0, 1) := by decide +kernel
theorem dX10_method_121 : decode cX10_method 121 = .ok (.getfield 78, 3) := by decide +kernel
theorem dX10_method_124 : decode cX10_method 124 = .ok (.iload_n 1, 1) := by decide +kernel
theorem dX10_method_125 : decode cX10_method 125 = .ok (.iaload, 1) := by decide +kernel
theorem dX10_method_126 : decode cX10_method 126 = .ok (.goto 39, 3) := by decide +kernel
theorem dX10_method_129 : decode cX10_method 129 = .ok (.iload_n 2, 1) := by decide +kernel
theorem dX10_method_130 : decode cX10_method 130 = .ok (.bipush 7, 2) := by decide +kernel
theorem dX10_method_132 : decode cX10_method 132 = .ok (.if_icmp .ne 12, 3) := by decide +kernel
theorem dX10_method_135 : decode cX10_method 135 = .ok (.aload_n 0, 1) := by decide +kernel
theorem dX10_method_136 : decode cX10_method 136 = .ok (.getfield 84, 3) := by decide +kernel
theorem dX10_method_139 : decode cX10_method 139 = .ok (.iload_n 1, 1) := by decide +kernel
theorem dX10_method_140 : decode cX10_method 140 = .ok (.iaload, 1) := by decide +kernel
theorem dX10_method_141 : decode cX10_method 141 = .ok (.goto 24, 3) := by decide +kernel
theorem dX10_method_144 : decode cX10_method 144 = .ok (.iload_n 2, 1) := by decide +kernel
theorem dX10_method_145 : decode cX10_method 145 = .ok (.bipush 8, 2) := by decide +kernel
theorem dX10_method_147 : decode cX10_method 147 = .ok (.if_icmp .ne 12, 3) := by decide +kernel
theorem dX10_method_150 : decode cX10_method 150 = .ok (.aload_n 0, 1) := by decide +kernel
theorem dX10_method_151 : decode cX10_method 151 = .ok (.getfield 102, 3) := by decide +kernel
theorem dX10_method_154 : decode cX10_method 154 = .ok (.iload_n 1, 1) := by decide +kernel
theorem dX10_method_155 : decode cX10_method 155 = .ok (.iaload, 1) := by decide +kernel
theorem dX10_method_156 : decode cX10_method 156 = .ok (.goto 9, 3) := by decide +kernel
theorem dX10_method_159 : decode cX10_method 159 = .ok (.aload_n 0, 1) := by decide +kernel
theorem dX10_method_160 : decode cX10_method 160 = .ok (.getfield 105, 3) := by decide +kernel
theorem dX10_method_163 : decode cX10_method 163 = .ok (.iload_n 1, 1) := by decide +kernel
theorem dX10_method_164 : decode cX10_method 164 = .ok (.iaload, 1) := by decide +kernel
theorem dX10_method_165 : decode cX10_method 165 = .ok (.ireturn, 1) := by decide +kernel
theorem dX10_instructions_0 : decode cX10_instructions 0 = .ok (.iconst 0, 1) := by decide +kernel
theorem dX10_instructions_1 : decode cX10_instructions 1 = .ok (.istore_n 3, 1) := by decide +kernel
theorem dX10_instructions_2 : decode cX10_instructions 2 = .ok (.iconst 0, 1) := by decide +kernel
theorem dX10_instructions_3 : decode cX10_instructions 3 = .ok (.istore 4, 2) := by decide +kernel
theorem dX10_instructions_5 : decode cX10_instructions 5 = .ok (.iconst 0, 1) := by decide +kernel
theorem dX10_instructions_6 : decode cX10_instructions 6 = .ok (.istore 5, 2) := by decide +kernel
theorem dX10_instructions_8 : decode cX10_instructions 8 = .ok (.iload 5, 2) := by decide +kernel
theorem dX10_instructions_10 : decode cX10_instructions 10 = .ok (.aload_n 0, 1) := by decide +kernel
theorem dX10_instructions_11 : decode cX10_instructions 11 = .ok (.getfield 23, 3) := by decide +kernel
theorem dX10_instructions_14 : decode cX10_instructions 14 = .ok (.iload_n 1, 1) := by decide +kernel
theorem dX10_instructions_15 : decode cX10_instructions 15 = .ok (.iaload, 1) := by decide +kernel
theorem dX10_instructions_16 : decode cX10_instructions 16 = .ok (.if_icmp .ge 87, 3) := by decide +kernel
theorem dX10_instructions_19 : decode cX10_instructions 19 = .ok (.aload_n 0, 1) := by decide +kernel
theorem dX10_instructions_20 : decode cX10_instructions 20 = .ok (.getfield 44, 3) := by decide +kernel
theorem dX10_instructions_23 : decode cX10_instructions 23 = .ok (.sipush 400, 3) := by decide +kernel
theorem dX10_instructions_26 : decode cX10_instructions 26 = .ok (.iload_n 1, 1) := by decide +kernel
theorem dX10_instructions_27 : decode cX10_instructions 27 = .ok (.imul, 1) := by decide +kernel
theorem dX10_instructions_28 : decode cX10_instructions 28 = .ok (.iload 5, 2) := by decide +kernel
theorem dX10_instructions_30 : decode cX10_instructions 30 = .ok (.iadd, 1) := by decide +kernel
theorem dX10_instructions_31 : decode cX10_instructions 31 = .ok (.baload, 1) := by decide +kernel
theorem dX10_instructions_32 : decode cX10_instructions 32 = .ok (.ifCond .eq 9, 3) := by decide +kernel
theorem dX10_instructions_35 : decode cX10_instructions 35 = .ok (.iload_n 3, 1) := by decide +kernel
theorem dX10_instructions_36 : decode cX10_instructions 36 = .ok (.iconst 1, 1) := by decide +kernel
theorem dX10_instructions_37 : decode cX10_instructions 37 = .ok (.iadd, 1) := by decide +kernel
theorem dX10_instructions_38 : decode cX10_instructions 38 = .ok (.goto 4, 3) := by decide +kernel
theorem dX10_instructions_41 : decode cX10_instructions 41 = .ok (.iload_n 3, 1) := by decide +kernel
theorem dX10_instructions_42 : decode cX10_instructions 42 = .ok (.istore_n 3, 1) := by decide +kernel
theorem dX10_instructions_43 : decode cX10_instructions 43 = .ok (.aload_n 0, 1) := by decide +kernel
theorem dX10_instructions_44 : decode cX10_instructions 44 = .ok (.getfield 44, 3) := by decide +kernel
theorem dX10_instructions_47 : decode cX10_instructions 47 = .ok (.sipush 400, 3) := by decide +kernel
theorem dX10_instructions_50 : decode cX10_instructions 50 = .ok (.iload_n 1, 1) := by decide +kernel
theorem dX10_instructions_51 : decode cX10_instructions 51 = .ok (.imul, 1) := by decide +kernel
theorem dX10_instructions_52 : decode cX10_instructions 52 = .ok (.iload 5, 2) := by decide +kernel
theorem dX10_instructions_54 : decode cX10_instructions 54 = .ok (.iadd, 1) := by decide +kernel
theorem dX10_instructions_55 : decode cX10_instructions 55 = .ok (.baload, 1) := by decide +kernel
theorem dX10_instructions_56 : decode cX10_instructions 56 = .ok (.ifCond .eq 37, 3) := by decide +kernel
theorem dX10_instructions_59 : decode cX10_instructions 59 = .ok (.aload_n 0, 1) := by decide +kernel
theorem dX10_instructions_60 : decode cX10_instructions 60 = .ok (.getfield 48, 3) := by decide +kernel
theorem dX10_instructions_63 : decode cX10_instructions 63 = .ok (.sipush 400, 3) := by decide +kernel
theorem dX10_instructions_66 : decode cX10_instructions 66 = .ok (.iload_n 1, 1) := by decide +kernel
theorem dX10_instructions_67 : decode cX10_instructions 67 = .ok (.imul, 1) := by decide +kernel
theorem dX10_instructions_68 : decode cX10_instructions 68 = .ok (.iload 5, 2) := by decide +kernel
theorem dX10_instructions_70 : decode cX10_instructions 70 = .ok (.iadd, 1) := by decide +kernel
theorem dX10_instructions_71 : decode cX10_instructions 71 = .ok (.iaload, 1) := by decide +kernel
theorem dX10_instructions_72 : decode cX10_instructions 72 = .ok (.iload 4, 2) := by decide +kernel
theorem dX10_instructions_74 : decode cX10_instructions 74 = .ok (.if_icmp .le 19, 3) := by decide +kernel
theorem dX10_instructions_77 : decode cX10_instructions 77 = .ok (.aload_n 0, 1) := by decide +kernel
theorem dX10_instructions_78 : decode cX10_instructions 78 = .ok (.getfield 48, 3) := by decide +kernel
theorem dX10_instructions_81 : decode cX10_instructions 81 = .ok (.sipush 400, 3) := by decide +kernel
theorem dX10_instructions_84 : decode cX10_instructions 84 = .ok (.iload_n 1, 1) := by decide +kernel
theorem dX10_instructions_85 : decode cX10_instructions 85 = .ok (.imul, 1) := by decide +kernel
theorem dX10_instructions_86 : decode cX10_instructions 86 = .ok (.iload 5, 2) := by decide +kernel
theorem dX10_instructions_88 : decode cX10_instructions 88 = .ok (.iadd, 1) := by decide +kernel
theorem dX10_instructions_89 : decode cX10_instructions 89 = .ok (.iaload, 1) := by decide +kernel
theorem dX10_instructions_90 : decode cX10_instructions 90 = .ok (.goto 5, 3) := by decide +kernel
theorem dX10_instructions_93 : decode cX10_instructions 93 = .ok (.iload 4, 2) := by decide +kernel
theorem dX10_instructions_95 : decode cX10_instructions 95 = .ok (.istore 4, 2) := by decide +kernel
theorem dX10_instructions_97 : decode cX10_instructions 97 = .ok (.iinc 5 1, 3) := by decide +kernel
theorem dX10_instructions_100 : decode cX10_instructions 100 = .ok (.goto (-92), 3) := by decide +kernel
theorem dX10_instructions_103 : decode cX10_instructions 103 = .ok (.iload_n 2, 1) := by decide +kernel
theorem dX10_instructions_104 : decode cX10_instructions 104 = .ok (.ifCond .eq 8, 3) := by decide +kernel
theorem dX10_instructions_107 : decode cX10_instructions 107 = .ok (.iload 4, 2) := by decide +kernel
theorem dX10_instructions_109 : decode cX10_instructions 109 = .ok (.goto 4, 3) := by decide +kernel
theorem dX10_instructions_112 : decode cX10_instructions 112 = .ok (.iload_n 3, 1) := by decide +kernel
theorem dX10_instructions_113 : decode cX10_instructions 113 = .ok (.ireturn, 1) := by decide +kernel
theorem dX10_octet_0 : decode cX10_octet 0 = .ok (.aload_n 0, 1) := by decide +kernel
theorem dX10_octet_1 : decode cX10_octet 1 = .ok (.iload_n 1, 1) := by decide +kernel
theorem dX10_octet_2 : decode cX10_octet 2 = .ok (.invokevirtual 318, 3) := by decide +kernel
theorem dX10_octet_5 : decode cX10_octet 5 = .ok (.ifCond .ne 5, 3) := by decide +kernel
theorem dX10_octet_8 : decode cX10_octet 8 = .ok (.iconst (-1), 1) := by decide +kernel
theorem dX10_octet_9 : decode cX10_octet 9 = .ok (.ireturn, 1) := by decide +kernel
theorem dX10_octet_10 : decode cX10_octet 10 = .ok (.iload_n 2, 1) := by decide +kernel
theorem dX10_octet_11 : decode cX10_octet 11 = .ok (.ifCond .ne 36, 3) := by decide +kernel
theorem dX10_octet_14 : decode cX10_octet 14 = .ok (.iload_n 3, 1) := by decide +kernel
theorem dX10_octet_15 : decode cX10_octet 15 = .ok (.iconst 0, 1) := by decide +kernel
theorem dX10_octet_16 : decode cX10_octet 16 = .ok (.aload_n 0, 1) := by decide +kernel
theorem dX10_octet_17 : decode cX10_octet 17 = .ok (.getfield 23, 3) := by decide +kernel
theorem dX10_octet_20 : decode cX10_octet 20 = .ok (.iload_n 1, 1) := by decide +kernel
theorem dX10_octet_21 : decode cX10_octet 21 = .ok (.iaload, 1) := by decide +kernel
theorem dX10_octet_22 : decode cX10_octet 22 = .ok (.iconst 1, 1) := by decide +kernel
theorem dX10_octet_23 : decode cX10_octet 23 = .ok (.isub, 1) := by decide +kernel
theorem dX10_octet_24 : decode cX10_octet 24 = .ok (.invokestatic 217, 3) := by decide +kernel
theorem dX10_octet_27 : decode cX10_octet 27 = .ok (.ifCond .eq 18, 3) := by decide +kernel
theorem dX10_octet_30 : decode cX10_octet 30 = .ok (.aload_n 0, 1) := by decide +kernel
theorem dX10_octet_31 : decode cX10_octet 31 = .ok (.getfield 26, 3) := by decide +kernel
theorem dX10_octet_34 : decode cX10_octet 34 = .ok (.sipush 400, 3) := by decide +kernel
theorem dX10_octet_37 : decode cX10_octet 37 = .ok (.iload_n 1, 1) := by decide +kernel
theorem dX10_octet_38 : decode cX10_octet 38 = .ok (.imul, 1) := by decide +kernel
theorem dX10_octet_39 : decode cX10_octet 39 = .ok (.iload_n 3, 1) := by decide +kernel
theorem dX10_octet_40 : decode cX10_octet 40 = .ok (.iadd, 1) := by decide +kernel
theorem dX10_octet_41 : decode cX10_octet 41 = .ok (.iaload, 1) := by decide +kernel
theorem dX10_octet_42 : decode cX10_octet 42 = .ok (.goto 4, 3) := by decide +kernel
theorem dX10_octet_45 : decode cX10_octet 45 = .ok (.iconst (-1), 1) := by decide +kernel
theorem dX10_octet_46 : decode cX10_octet 46 = .ok (.ireturn, 1) := by decide +kernel
theorem dX10_octet_47 : decode cX10_octet 47 = .ok (.aload_n 0, 1) := by decide +kernel
theorem dX10_octet_48 : decode cX10_octet 48 = .ok (.iload_n 1, 1) := by decide +kernel
theorem dX10_octet_49 : decode cX10_octet 49 = .ok (.invokevirtual 325, 3) := by decide +kernel
theorem dX10_octet_52 : decode cX10_octet 52 = .ok (.ifCond .eq 34, 3) := by decide +kernel
theorem dX10_octet_55 : decode cX10_octet 55 = .ok (.iload_n 3, 1) := by decide +kernel
theorem dX10_octet_56 : decode cX10_octet 56 = .ok (.iconst 0, 1) := by decide +kernel
theorem dX10_octet_57 : decode cX10_octet 57 = .ok (.aload_n 0, 1) := by decide +kernel
theorem dX10_octet_58 : decode cX10_octet 58 = .ok (.getfield 78, 3) := by decide +kernel
theorem dX10_octet_61 : decode cX10_octet 61 = .ok (.iload_n 1, 1) := by decide +kernel
theorem dX10_octet_62 : decode cX10_octet 62 = .ok (.iaload, 1) := by decide +kernel
theorem dX10_octet_63 : decode cX10_octet 63 = .ok (.iconst 1, 1) := by decide +kernel
theorem dX10_octet_64 : decode cX10_octet 64 = .ok (.isub, 1) := by decide +kernel
theorem dX10_octet_65 : decode cX10_octet 65 = .ok (.invokestatic 217, 3) := by decide +kernel
theorem dX10_octet_68 : decode cX10_octet 68 = .ok (.ifCond .eq 18, 3) := by decide +kernel
theorem dX10_octet_71 : decode cX10_octet 71 = .ok (.aload_n 0, 1) := by decide +kernel
theorem dX10_octet_72 : decode cX10_octet 72 = .ok (.getfield 75, 3) := by decide +kernel
theorem dX10_octet_75 : decode cX10_octet 75 = .ok (.sipush 1000, 3) := by decide +kernel
theorem dX10_octet_78 : decode cX10_octet 78 = .ok (.iload_n 1, 1) := by decide +kernel
theorem dX10_octet_79 : decode cX10_octet 79 = .ok (.imul, 1) := by decide +kernel
theorem dX10_octet_80 : decode cX10_octet 80 = .ok (.iload_n 3, 1) := by decide +kernel
theorem dX10_octet_81 : decode cX10_octet 81 = .ok (.iadd, 1) := by decide +kernel
theorem dX10_octet_82 : decode cX10_octet 82 = .ok (.iaload, 1) := by decide +kernel
theorem dX10_octet_83 : decode cX10_octet 83 = .ok (.goto 4, 3) := by decide +kernel
theorem dX10_octet_86 : decode cX10_octet 86 = .ok (.iconst (-1), 1) := by decide +kernel
theorem dX10_octet_87 : decode cX10_octet 87 = .ok (.ireturn, 1) := by decide +kernel
theorem dX10_handler_0 : decode cX10_handler 0 = .ok (.aload_n 0, 1) := by decide +kernel
theorem dX10_handler_1 : decode cX10_handler 1 = .ok (.iload_n 1, 1) := by decide +kernel
theorem dX10_handler_2 : decode cX10_handler 2 = .ok (.invokevirtual 318, 3) := by decide +kernel
theorem dX10_handler_5 : decode cX10_handler 5 = .ok (.ifCond .eq 54, 3) := by decide +kernel
theorem dX10_handler_8 : decode cX10_handler 8 = .ok (.iload 4, 2) := by decide +kernel
theorem dX10_handler_10 : decode cX10_handler 10 = .ok (.iconst 0, 1) := by decide +kernel
theorem dX10_handler_11 : decode cX10_handler 11 = .ok (.iconst 3, 1) := by decide +kernel
theorem dX10_handler_12 : decode cX10_handler 12 = .ok (.invokestatic 217, 3) := by decide +kernel
theorem dX10_handler_15 : decode cX10_handler 15 = .ok (.ifCond .eq 44, 3) := by decide +kernel
theorem dX10_handler_18 : decode cX10_handler 18 = .ok (.iload_n 2, 1) := by decide +kernel
theorem dX10_handler_19 : decode cX10_handler 19 = .ok (.ifCond .eq 11, 3) := by decide +kernel
theorem dX10_handler_22 : decode cX10_handler 22 = .ok (.aload_n 0, 1) := by decide +kernel
theorem dX10_handler_23 : decode cX10_handler 23 = .ok (.iload_n 1, 1) := by decide +kernel
theorem dX10_handler_24 : decode cX10_handler 24 = .ok (.invokevirtual 325, 3) := by decide +kernel
theorem dX10_handler_27 : decode cX10_handler 27 = .ok (.ifCond .eq 32, 3) := by decide +kernel
theorem dX10_handler_30 : decode cX10_handler 30 = .ok (.iload_n 3, 1) := by decide +kernel
theorem dX10_handler_31 : decode cX10_handler 31 = .ok (.iconst 0, 1) := by decide +kernel
theorem dX10_handler_32 : decode cX10_handler 32 = .ok (.iload_n 2, 1) := by decide +kernel
theorem dX10_handler_33 : decode cX10_handler 33 = .ok (.ifCond .eq 12, 3) := by decide +kernel
theorem dX10_handler_36 : decode cX10_handler 36 = .ok (.aload_n 0, 1) := by decide +kernel
theorem dX10_handler_37 : decode cX10_handler 37 = .ok (.getfield 84, 3) := by decide +kernel
theorem dX10_handler_40 : decode cX10_handler 40 = .ok (.iload_n 1, 1) := by decide +kernel
theorem dX10_handler_41 : decode cX10_handler 41 = .ok (.iaload, 1) := by decide +kernel
theorem dX10_handler_42 : decode cX10_handler 42 = .ok (.goto 9, 3) := by decide +kernel
theorem dX10_handler_45 : decode cX10_handler 45 = .ok (.aload_n 0, 1) := by decide +kernel
theorem dX10_handler_46 : decode cX10_handler 46 = .ok (.getfield 29, 3) := by decide +kernel
theorem dX10_handler_49 : decode cX10_handler 49 = .ok (.iload_n 1, 1) := by decide +kernel
theorem dX10_handler_50 : decode cX10_handler 50 = .ok (.iaload, 1) := by decide +kernel
theorem dX10_handler_51 : decode cX10_handler 51 = .ok (.iconst 1, 1) := by decide +kernel
theorem dX10_handler_52 : decode cX10_handler 52 = .ok (.isub, 1) := by decide +kernel
theorem dX10_handler_53 : decode cX10_handler 53 = .ok (.invokestatic 217, 3) := by decide +kernel
theorem dX10_handler_56 : decode cX10_handler 56 = .ok (.ifCond .ne 5, 3) := by decide +kernel
theorem dX10_handler_59 : decode cX10_handler 59 = .ok (.iconst (-1), 1) := by decide +kernel
theorem dX10_handler_60 : decode cX10_handler 60 = .ok (.ireturn, 1) := by decide +kernel
theorem dX10_handler_61 : decode cX10_handler 61 = .ok (.iload_n 2, 1) := by decide +kernel
theorem dX10_handler_62 : decode cX10_handler 62 = .ok (.ifCond .eq 12, 3) := by decide +kernel
theorem dX10_handler_65 : decode cX10_handler 65 = .ok (.bipush 9, 2) := by decide +kernel
theorem dX10_handler_67 : decode cX10_handler 67 = .ok (.iload_n 1, 1) := by decide +kernel
theorem dX10_handler_68 : decode cX10_handler 68 = .ok (.imul, 1) := by decide +kernel
theorem dX10_handler_69 : decode cX10_handler 69 = .ok (.iload_n 3, 1) := by decide +kernel
theorem dX10_handler_70 : decode cX10_handler 70 = .ok (.iadd, 1) := by decide +kernel
theorem dX10_handler_71 : decode cX10_handler 71 = .ok (.goto 9, 3) := by decide +kernel
theorem dX10_handler_74 : decode cX10_handler 74 = .ok (.bipush 8, 2) := by decide +kernel
theorem dX10_handler_76 : decode cX10_handler 76 = .ok (.iload_n 1, 1) := by decide +kernel
theorem dX10_handler_77 : decode cX10_handler 77 = .ok (.imul, 1) := by decide +kernel
theorem dX10_handler_78 : decode cX10_handler 78 = .ok (.iload_n 3, 1) := by decide +kernel
theorem dX10_handler_79 : decode cX10_handler 79 = .ok (.iadd, 1) := by decide +kernel
theorem dX10_handler_80 : decode cX10_handler 80 = .ok (.istore 5, 2) := by decide +kernel
theorem dX10_handler_82 : decode cX10_handler 82 = .ok (.iload_n 2, 1) := by decide +kernel
theorem dX10_handler_83 : decode cX10_handler 83 = .ok (.ifCond .eq 58, 3) := by decide +kernel
theorem dX10_handler_86 : decode cX10_handler 86 = .ok (.iload 4, 2) := by decide +kernel
theorem dX10_handler_88 : decode cX10_handler 88 = .ok (.ifCond .ne 13, 3) := by decide +kernel
theorem dX10_handler_91 : decode cX10_handler 91 = .ok (.aload_n 0, 1) := by decide +kernel
theorem dX10_handler_92 : decode cX10_handler 92 = .ok (.getfield 87, 3) := by decide +kernel
theorem dX10_handler_95 : decode cX10_handler 95 = .ok (.iload 5, 2) := by decide +kernel
theorem dX10_handler_97 : decode cX10_handler 97 = .ok (.iaload, 1) := by decide +kernel
theorem dX10_handler_98 : decode cX10_handler 98 = .ok (.goto 42, 3) := by decide +kernel
theorem dX10_handler_101 : decode cX10_handler 101 = .ok (.iload 4, 2) := by decide +kernel
theorem dX10_handler_103 : decode cX10_handler 103 = .ok (.iconst 1, 1) := by decide +kernel
theorem dX10_handler_104 : decode cX10_handler 104 = .ok (.if_icmp .ne 13, 3) := by decide +kernel
theorem dX10_handler_107 : decode cX10_handler 107 = .ok (.aload_n 0, 1) := by decide +kernel
theorem dX10_handler_108 : decode cX10_handler 108 = .ok (.getfield 90, 3) := by decide +kernel
theorem dX10_handler_111 : decode cX10_handler 111 = .ok (.iload 5, 2) := by decide +kernel
theorem dX10_handler_113 : decode cX10_handler 113 = .ok (.iaload, 1) := by decide +kernel
theorem dX10_handler_114 : decode cX10_handler 114 = .ok (.goto 26, 3) := by decide +kernel
theorem dX10_handler_117 : decode cX10_handler 117 = .ok (.iload 4, 2) := by decide +kernel
theorem dX10_handler_119 : decode cX10_handler 119 = .ok (.iconst 2, 1) := by decide +kernel
theorem dX10_handler_120 : decode cX10_handler 120 = .ok (.if_icmp .ne 13, 3) := by decide +kernel
theorem dX10_handler_123 : decode cX10_handler 123 = .ok (.aload_n 0, 1) := by decide +kernel
theorem dX10_handler_124 : decode cX10_handler 124 = .ok (.getfield 93, 3) := by decide +kernel
theorem dX10_handler_127 : decode cX10_handler 127 = .ok (.iload 5, 2) := by decide +kernel
theorem dX10_handler_129 : decode cX10_handler 129 = .ok (.iaload, 1) := by decide +kernel
theorem dX10_handler_130 : decode cX10_handler 130 = .ok (.goto 10, 3) := by decide +kernel
theorem dX10_handler_133 : decode cX10_handler 133 = .ok (.aload_n 0, 1) := by decide +kernel
theorem dX10_handler_134 : decode cX10_handler 134 = .ok (.getfield 96, 3) := by decide +kernel
theorem dX10_handler_137 : decode cX10_handler 137 = .ok (.iload 5, 2) := by decide +kernel
theorem dX10_handler_139 : decode cX10_handler 139 = .ok (.iaload, 1) := by decide +kernel
theorem dX10_handler_140 : decode cX10_handler 140 = .ok (.ireturn, 1) := by decide +kernel
theorem dX10_handler_141 : decode cX10_handler 141 = .ok (.iload 4, 2) := by decide +kernel
theorem dX10_handler_143 : decode cX10_handler 143 = .ok (.ifCond .ne 13, 3) := by decide +kernel
theorem dX10_handler_146 : decode cX10_handler 146 = .ok (.aload_n 0, 1) := by decide +kernel
theorem dX10_handler_147 : decode cX10_handler 147 = .ok (.getfield 32, 3) := by decide +kernel
theorem dX10_handler_150 : decode cX10_handler 150 = .ok (.iload 5, 2) := by decide +kernel
theorem dX10_handler_152 : decode cX10_handler 152 = .ok (.iaload, 1) := by decide +kernel
theorem dX10_handler_153 : decode cX10_handler 153 = .ok (.goto 42, 3) := by decide +kernel
theorem dX10_handler_156 : decode cX10_handler 156 = .ok (.iload 4, 2) := by decide +kernel
theorem dX10_handler_158 : decode cX10_handler 158 = .ok (.iconst 1, 1) := by decide +kernel
theorem dX10_handler_159 : decode cX10_handler 159 = .ok (.if_icmp .ne 13, 3) := by decide +kernel
theorem dX10_handler_162 : decode cX10_handler 162 = .ok (.aload_n 0, 1) := by decide +kernel
theorem dX10_handler_163 : decode cX10_handler 163 = .ok (.getfield 35, 3) := by decide +kernel
theorem dX10_handler_166 : decode cX10_handler 166 = .ok (.iload 5, 2) := by decide +kernel
theorem dX10_handler_168 : decode cX10_handler 168 = .ok (.iaload, 1) := by decide +kernel
theorem dX10_handler_169 : decode cX10_handler 169 = .ok (.goto 26, 3) := by decide +kernel
theorem dX10_handler_172 : decode cX10_handler 172 = .ok (.iload 4, 2) := by decide +kernel
theorem dX10_handler_174 : decode cX10_handler 174 = .ok (.iconst 2, 1) := by decide +kernel
theorem dX10_handler_175 : decode cX10_handler 175 = .ok (.if_icmp .ne 13, 3) := by decide +kernel
theorem dX10_handler_178 : decode cX10_handler 178 = .ok (.aload_n 0, 1) := by decide +kernel
theorem dX10_handler_179 : decode cX10_handler 179 = .ok (.getfield 38, 3) := by decide +kernel
theorem dX10_handler_182 : decode cX10_handler 182 = .ok (.iload 5, 2) := by decide +kernel
theorem dX10_handler_184 : decode cX10_handler 184 = .ok (.iaload, 1) := by decide +kernel
theorem dX10_handler_185 : decode cX10_handler 185 = .ok (.goto 10, 3) := by decide +kernel
theorem dX10_handler_188 : decode cX10_handler 188 = .ok (.aload_n 0, 1) := by decide +kernel
theorem dX10_handler_189 : decode cX10_handler 189 = .ok (.getfield 41, 3) := by decide +kernel
theorem dX10_handler_192 : decode cX10_handler 192 = .ok (.iload 5, 2) := by decide +kernel
theorem dX10_handler_194 : decode cX10_handler 194 = .ok (.iaload, 1) := by decide +kernel
theorem dX10_handler_195 : decode cX10_handler 195 = .ok (.ireturn, 1) := by decide +kernel
theorem dX10_type_0 : decode cX10_type 0 = .ok (.aload_n 0, 1) := by decide +kernel
theorem dX10_type_1 : decode cX10_type 1 = .ok (.iload_n 1, 1) := by decide +kernel
theorem dX10_type_2 : decode cX10_type 2 = .ok (.invokevirtual 318, 3) := by decide +kernel
theorem dX10_type_5 : decode cX10_type 5 = .ok (.ifCond .eq 22, 3) := by decide +kernel
theorem dX10_type_8 : decode cX10_type 8 = .ok (.aload_n 0, 1) := by decide +kernel
theorem dX10_type_9 : decode cX10_type 9 = .ok (.iload_n 1, 1) := by decide +kernel
theorem dX10_type_10 : decode cX10_type 10 = .ok (.iload_n 2, 1) := by decide +kernel
theorem dX10_type_11 : decode cX10_type 11 = .ok (.invokevirtual 274, 3) := by decide +kernel
theorem dX10_type_14 : decode cX10_type 14 = .ok (.ifCond .eq 13, 3) := by decide +kernel
theorem dX10_type_17 : decode cX10_type 17 = .ok (.iload_n 3, 1) := by decide +kernel
theorem dX10_type_18 : decode cX10_type 18 = .ok (.iconst 0, 1) := by decide +kernel
theorem dX10_type_19 : decode cX10_type 19 = .ok (.bipush 22, 2) := by decide +kernel
theorem dX10_type_21 : decode cX10_type 21 = .ok (.invokestatic 217, 3) := by decide +kernel
theorem dX10_type_24 : decode cX10_type 24 = .ok (.ifCond .ne 5, 3) := by decide +kernel
theorem dX10_type_27 : decode cX10_type 27 = .ok (.iconst (-1), 1) := by decide +kernel
theorem dX10_type_28 : decode cX10_type 28 = .ok (.ireturn, 1) := by decide +kernel
theorem dX10_type_29 : decode cX10_type 29 = .ok (.sipush 400, 3) := by decide +kernel
theorem dX10_type_32 : decode cX10_type 32 = .ok (.iload_n 1, 1) := by decide +kernel
theorem dX10_type_33 : decode cX10_type 33 = .ok (.imul, 1) := by decide +kernel
theorem dX10_type_34 : decode cX10_type 34 = .ok (.iload_n 2, 1) := by decide +kernel
theorem dX10_type_35 : decode cX10_type 35 = .ok (.iadd, 1) := by decide +kernel
theorem dX10_type_36 : decode cX10_type 36 = .ok (.istore 4, 2) := by decide +kernel
theorem dX10_type_38 : decode cX10_type 38 = .ok (.aload_n 0, 1) := by decide +kernel
theorem dX10_type_39 : decode cX10_type 39 = .ok (.getfield 48, 3) := by decide +kernel
theorem dX10_type_42 : decode cX10_type 42 = .ok (.iload 4, 2) := by decide +kernel
theorem dX10_type_44 : decode cX10_type 44 = .ok (.iaload, 1) := by decide +kernel
theorem dX10_type_45 : decode cX10_type 45 = .ok (.ifCond .ge 5, 3) := by decide +kernel
theorem dX10_type_48 : decode cX10_type 48 = .ok (.iconst (-1), 1) := by decide +kernel
theorem dX10_type_49 : decode cX10_type 49 = .ok (.ireturn, 1) := by decide +kernel
theorem dX10_type_50 : decode cX10_type 50 = .ok (.iload_n 3, 1) := by decide +kernel
theorem dX10_type_51 : decode cX10_type 51 = .ok (.ifCond .ne 11, 3) := by decide +kernel
theorem dX10_type_54 : decode cX10_type 54 = .ok (.aload_n 0, 1) := by decide +kernel
theorem dX10_type_55 : decode cX10_type 55 = .ok (.getfield 48, 3) := by decide +kernel
theorem dX10_type_58 : decode cX10_type 58 = .ok (.iload 4, 2) := by decide +kernel
theorem dX10_type_60 : decode cX10_type 60 = .ok (.iaload, 1) := by decide +kernel
theorem dX10_type_61 : decode cX10_type 61 = .ok (.ireturn, 1) := by decide +kernel
theorem dX10_type_62 : decode cX10_type 62 = .ok (.iload_n 3, 1) := by decide +kernel
theorem dX10_type_63 : decode cX10_type 63 = .ok (.bipush 12, 2) := by decide +kernel
theorem dX10_type_65 : decode cX10_type 65 = .ok (.if_icmp .gt 32, 3) := by decide +kernel
theorem dX10_type_68 : decode cX10_type 68 = .ok (.iload_n 3, 1) := by decide +kernel
theorem dX10_type_69 : decode cX10_type 69 = .ok (.aload_n 0, 1) := by decide +kernel
theorem dX10_type_70 : decode cX10_type 70 = .ok (.getfield 20, 3) := by decide +kernel
theorem dX10_type_73 : decode cX10_type 73 = .ok (.iload_n 1, 1) := by decide +kernel
theorem dX10_type_74 : decode cX10_type 74 = .ok (.iaload, 1) := by decide +kernel
theorem dX10_type_75 : decode cX10_type 75 = .ok (.if_icmp .gt 20, 3) := by decide +kernel
theorem dX10_type_78 : decode cX10_type 78 = .ok (.aload_n 0, 1) := by decide +kernel
theorem dX10_type_79 : decode cX10_type 79 = .ok (.getfield 51, 3) := by decide +kernel
theorem dX10_type_82 : decode cX10_type 82 = .ok (.bipush 12, 2) := by decide +kernel
theorem dX10_type_84 : decode cX10_type 84 = .ok (.iload 4, 2) := by decide +kernel
theorem dX10_type_86 : decode cX10_type 86 = .ok (.imul, 1) := by decide +kernel
theorem dX10_type_87 : decode cX10_type 87 = .ok (.iload_n 3, 1) := by decide +kernel
theorem dX10_type_88 : decode cX10_type 88 = .ok (.iadd, 1) := by decide +kernel
theorem dX10_type_89 : decode cX10_type 89 = .ok (.iconst 1, 1) := by decide +kernel
theorem dX10_type_90 : decode cX10_type 90 = .ok (.isub, 1) := by decide +kernel
theorem dX10_type_91 : decode cX10_type 91 = .ok (.iaload, 1) := by decide +kernel
theorem dX10_type_92 : decode cX10_type 92 = .ok (.goto 4, 3) := by decide +kernel
theorem dX10_type_95 : decode cX10_type 95 = .ok (.iconst (-1), 1) := by decide +kernel
theorem dX10_type_96 : decode cX10_type 96 = .ok (.ireturn, 1) := by decide +kernel
theorem dX10_type_97 : decode cX10_type 97 = .ok (.iload_n 3, 1) := by decide +kernel
theorem dX10_type_98 : decode cX10_type 98 = .ok (.bipush 13, 2) := by decide +kernel
theorem dX10_type_100 : decode cX10_type 100 = .ok (.isub, 1) := by decide +kernel
theorem dX10_type_101 : decode cX10_type 101 = .ok (.aload_n 0, 1) := by decide +kernel
theorem dX10_type_102 : decode cX10_type 102 = .ok (.getfield 48, 3) := by decide +kernel
theorem dX10_type_105 : decode cX10_type 105 = .ok (.iload 4, 2) := by decide +kernel
theorem dX10_type_107 : decode cX10_type 107 = .ok (.iaload, 1) := by decide +kernel
theorem dX10_type_108 : decode cX10_type 108 = .ok (.if_icmp .ge 21, 3) := by decide +kernel
theorem dX10_type_111 : decode cX10_type 111 = .ok (.aload_n 0, 1) := by decide +kernel
theorem dX10_type_112 : decode cX10_type 112 = .ok (.getfield 54, 3) := by decide +kernel
theorem dX10_type_115 : decode cX10_type 115 = .ok (.bipush 10, 2) := by decide +kernel
theorem dX10_type_117 : decode cX10_type 117 = .ok (.iload 4, 2) := by decide +kernel
theorem dX10_type_119 : decode cX10_type 119 = .ok (.imul, 1) := by decide +kernel
theorem dX10_type_120 : decode cX10_type 120 = .ok (.iload_n 3, 1) := by decide +kernel
theorem dX10_type_121 : decode cX10_type 121 = .ok (.iadd, 1) := by decide +kernel
theorem dX10_type_122 : decode cX10_type 122 = .ok (.bipush 13, 2) := by decide +kernel
theorem dX10_type_124 : decode cX10_type 124 = .ok (.isub, 1) := by decide +kernel
theorem dX10_type_125 : decode cX10_type 125 = .ok (.iaload, 1) := by decide +kernel
theorem dX10_type_126 : decode cX10_type 126 = .ok (.goto 4, 3) := by decide +kernel
theorem dX10_type_129 : decode cX10_type 129 = .ok (.iconst (-1), 1) := by decide +kernel
theorem dX10_type_130 : decode cX10_type 130 = .ok (.ireturn, 1) := by decide +kernel
theorem dX10_moved_0 : decode cX10_moved 0 = .ok (.aload_n 0, 1) := by decide +kernel
theorem dX10_moved_1 : decode cX10_moved 1 = .ok (.iload_n 1, 1) := by decide +kernel
theorem dX10_moved_2 : decode cX10_moved 2 = .ok (.invokevirtual 318, 3) := by decide +kernel
theorem dX10_moved_5 : decode cX10_moved 5 = .ok (.ifCond .eq 35, 3) := by decide +kernel
theorem dX10_moved_8 : decode cX10_moved 8 = .ok (.aload_n 0, 1) := by decide +kernel
theorem dX10_moved_9 : decode cX10_moved 9 = .ok (.iload_n 1, 1) := by decide +kernel
theorem dX10_moved_10 : decode cX10_moved 10 = .ok (.iload_n 2, 1) := by decide +kernel
theorem dX10_moved_11 : decode cX10_moved 11 = .ok (.invokevirtual 274, 3) := by decide +kernel
theorem dX10_moved_14 : decode cX10_moved 14 = .ok (.ifCond .eq 26, 3) := by decide +kernel
theorem dX10_moved_17 : decode cX10_moved 17 = .ok (.aload_n 0, 1) := by decide +kernel
theorem dX10_moved_18 : decode cX10_moved 18 = .ok (.iload_n 1, 1) := by decide +kernel
theorem dX10_moved_19 : decode cX10_moved 19 = .ok (.invokevirtual 325, 3) := by decide +kernel
theorem dX10_moved_22 : decode cX10_moved 22 = .ok (.ifCond .eq 18, 3) := by decide +kernel
theorem dX10_moved_25 : decode cX10_moved 25 = .ok (.aload_n 0, 1) := by decide +kernel
theorem dX10_moved_26 : decode cX10_moved 26 = .ok (.getfield 99, 3) := by decide +kernel
theorem dX10_moved_29 : decode cX10_moved 29 = .ok (.sipush 400, 3) := by decide +kernel
theorem dX10_moved_32 : decode cX10_moved 32 = .ok (.iload_n 1, 1) := by decide +kernel
theorem dX10_moved_33 : decode cX10_moved 33 = .ok (.imul, 1) := by decide +kernel
theorem dX10_moved_34 : decode cX10_moved 34 = .ok (.iload_n 2, 1) := by decide +kernel
theorem dX10_moved_35 : decode cX10_moved 35 = .ok (.iadd, 1) := by decide +kernel
theorem dX10_moved_36 : decode cX10_moved 36 = .ok (.iaload, 1) := by decide +kernel
theorem dX10_moved_37 : decode cX10_moved 37 = .ok (.goto 4, 3) := by decide +kernel
theorem dX10_moved_40 : decode cX10_moved 40 = .ok (.iconst (-1), 1) := by decide +kernel
theorem dX10_moved_41 : decode cX10_moved 41 = .ok (.ireturn, 1) := by decide +kernel
theorem dX10_isTarget_0 : decode cX10_isTarget 0 = .ok (.iconst 0, 1) := by decide +kernel
theorem dX10_isTarget_1 : decode cX10_isTarget 1 = .ok (.istore_n 3, 1) := by decide +kernel
theorem dX10_isTarget_2 : decode cX10_isTarget 2 = .ok (.iconst 0, 1) := by decide +kernel
theorem dX10_isTarget_3 : decode cX10_isTarget 3 = .ok (.istore 4, 2) := by decide +kernel
theorem dX10_isTarget_5 : decode cX10_isTarget 5 = .ok (.iload 4, 2) := by decide +kernel
theorem dX10_isTarget_7 : decode cX10_isTarget 7 = .ok (.aload_n 0, 1) := by decide +kernel
theorem dX10_isTarget_8 : decode cX10_isTarget 8 = .ok (.getfield 29, 3) := by decide +kernel
theorem dX10_isTarget_11 : decode cX10_isTarget 11 = .ok (.iload_n 1, 1) := by decide +kernel
theorem dX10_isTarget_12 : decode cX10_isTarget 12 = .ok (.iaload, 1) := by decide +kernel
theorem dX10_isTarget_13 : decode cX10_isTarget 13 = .ok (.if_icmp .ge 35, 3) := by decide +kernel
theorem dX10_isTarget_16 : decode cX10_isTarget 16 = .ok (.iload_n 3, 1) := by decide +kernel
theorem dX10_isTarget_17 : decode cX10_isTarget 17 = .ok (.ifCond .ne 19, 3) := by decide +kernel
theorem dX10_isTarget_20 : decode cX10_isTarget 20 = .ok (.aload_n 0, 1) := by decide +kernel
theorem dX10_isTarget_21 : decode cX10_isTarget 21 = .ok (.getfield 38, 3) := by decide +kernel
theorem dX10_isTarget_24 : decode cX10_isTarget 24 = .ok (.bipush 8, 2) := by decide +kernel
theorem dX10_isTarget_26 : decode cX10_isTarget 26 = .ok (.iload_n 1, 1) := by decide +kernel
theorem dX10_isTarget_27 : decode cX10_isTarget 27 = .ok (.imul, 1) := by decide +kernel
theorem dX10_isTarget_28 : decode cX10_isTarget 28 = .ok (.iload 4, 2) := by decide +kernel
theorem dX10_isTarget_30 : decode cX10_isTarget 30 = .ok (.iadd, 1) := by decide +kernel
theorem dX10_isTarget_31 : decode cX10_isTarget 31 = .ok (.iaload, 1) := by decide +kernel
theorem dX10_isTarget_32 : decode cX10_isTarget 32 = .ok (.iload_n 2, 1) := by decide +kernel
theorem dX10_isTarget_33 : decode cX10_isTarget 33 = .ok (.if_icmp .ne 7, 3) := by decide +kernel
theorem dX10_isTarget_36 : decode cX10_isTarget 36 = .ok (.iconst 1, 1) := by decide +kernel
theorem dX10_isTarget_37 : decode cX10_isTarget 37 = .ok (.goto 4, 3) := by decide +kernel
theorem dX10_isTarget_40 : decode cX10_isTarget 40 = .ok (.iconst 0, 1) := by decide +kernel
theorem dX10_isTarget_41 : decode cX10_isTarget 41 = .ok (.istore_n 3, 1) := by decide +kernel
theorem dX10_isTarget_42 : decode cX10_isTarget 42 = .ok (.iinc 4 1, 3) := by decide +kernel
theorem dX10_isTarget_45 : decode cX10_isTarget 45 = .ok (.goto (-40), 3) := by decide +kernel
theorem dX10_isTarget_48 : decode cX10_isTarget 48 = .ok (.iload_n 3, 1) := by decide +kernel
theorem dX10_isTarget_49 : decode cX10_isTarget 49 = .ok (.ireturn, 1) := by decide +kernel
theorem dX10_fits_0 : decode cX10_fits 0 = .ok (.aload_n 0, 1) := by decide +kernel
theorem dX10_fits_1 : decode cX10_fits 1 = .ok (.getfield 26, 3) := by decide +kernel
theorem dX10_fits_4 : decode cX10_fits 4 = .ok (.sipush 400, 3) := by decide +kernel
theorem dX10_fits_7 : decode cX10_fits 7 = .ok (.iload_n 2, 1) := by decide +kernel
theorem dX10_fits_8 : decode cX10_fits 8 = .ok (.imul, 1) := by decide +kernel
theorem dX10_fits_9 : decode cX10_fits 9 = .ok (.iload_n 3, 1) := by decide +kernel
theorem dX10_fits_10 : decode cX10_fits 10 = .ok (.iadd, 1) := by decide +kernel
theorem dX10_fits_11 : decode cX10_fits 11 = .ok (.iaload, 1) := by decide +kernel
theorem dX10_fits_12 : decode cX10_fits 12 = .ok (.istore 6, 2) := by decide +kernel
theorem dX10_fits_14 : decode cX10_fits 14 = .ok (.iload_n 1, 1) := by decide +kernel
theorem dX10_fits_15 : decode cX10_fits 15 = .ok (.tableswitch 193 1 7 #[41, 71, 71, 81, 101, 108, 137], 41) := by decide +kernel
theorem dX10_fits_56 : decode cX10_fits 56 = .ok (.iload 6, 2) := by decide +kernel
theorem dX10_fits_58 : decode cX10_fits 58 = .ok (.bipush 21, 2) := by decide +kernel
theorem dX10_fits_60 : decode cX10_fits 60 = .ok (.bipush 32, 2) := by decide +kernel
theorem dX10_fits_62 : decode cX10_fits 62 = .ok (.invokestatic 217, 3) := by decide +kernel
theorem dX10_fits_65 : decode cX10_fits 65 = .ok (.ifCond .ne 15, 3) := by decide +kernel
theorem dX10_fits_68 : decode cX10_fits 68 = .ok (.iload 6, 2) := by decide +kernel
theorem dX10_fits_70 : decode cX10_fits 70 = .ok (.bipush 85, 2) := by decide +kernel
theorem dX10_fits_72 : decode cX10_fits 72 = .ok (.bipush 96, 2) := by decide +kernel
theorem dX10_fits_74 : decode cX10_fits 74 = .ok (.invokestatic 217, 3) := by decide +kernel
theorem dX10_fits_77 : decode cX10_fits 77 = .ok (.ifCond .eq 7, 3) := by decide +kernel
theorem dX10_fits_80 : decode cX10_fits 80 = .ok (.iconst 1, 1) := by decide +kernel
theorem dX10_fits_81 : decode cX10_fits 81 = .ok (.goto 4, 3) := by decide +kernel
theorem dX10_fits_84 : decode cX10_fits 84 = .ok (.iconst 0, 1) := by decide +kernel
theorem dX10_fits_85 : decode cX10_fits 85 = .ok (.ireturn, 1) := by decide +kernel
theorem dX10_fits_86 : decode cX10_fits 86 = .ok (.iload_n 3, 1) := by decide +kernel
theorem dX10_fits_87 : decode cX10_fits 87 = .ok (.ifCond .ne 7, 3) := by decide +kernel
theorem dX10_fits_90 : decode cX10_fits 90 = .ok (.iconst 1, 1) := by decide +kernel
theorem dX10_fits_91 : decode cX10_fits 91 = .ok (.goto 4, 3) := by decide +kernel
theorem dX10_fits_94 : decode cX10_fits 94 = .ok (.iconst 0, 1) := by decide +kernel
theorem dX10_fits_95 : decode cX10_fits 95 = .ok (.ireturn, 1) := by decide +kernel
theorem dX10_fits_96 : decode cX10_fits 96 = .ok (.iload 6, 2) := by decide +kernel
theorem dX10_fits_98 : decode cX10_fits 98 = .ok (.bipush 35, 2) := by decide +kernel
theorem dX10_fits_100 : decode cX10_fits 100 = .ok (.if_icmp .eq 10, 3) := by decide +kernel
theorem dX10_fits_103 : decode cX10_fits 103 = .ok (.iload 6, 2) := by decide +kernel
theorem dX10_fits_105 : decode cX10_fits 105 = .ok (.bipush 39, 2) := by decide +kernel
theorem dX10_fits_107 : decode cX10_fits 107 = .ok (.if_icmp .ne 7, 3) := by decide +kernel
theorem dX10_fits_110 : decode cX10_fits 110 = .ok (.iconst 1, 1) := by decide +kernel
theorem dX10_fits_111 : decode cX10_fits 111 = .ok (.goto 4, 3) := by decide +kernel
theorem dX10_fits_114 : decode cX10_fits 114 = .ok (.iconst 0, 1) := by decide +kernel
theorem dX10_fits_115 : decode cX10_fits 115 = .ok (.ireturn, 1) := by decide +kernel
theorem dX10_fits_116 : decode cX10_fits 116 = .ok (.aload_n 0, 1) := by decide +kernel
theorem dX10_fits_117 : decode cX10_fits 117 = .ok (.iload_n 2, 1) := by decide +kernel
theorem dX10_fits_118 : decode cX10_fits 118 = .ok (.iload_n 3, 1) := by decide +kernel
theorem dX10_fits_119 : decode cX10_fits 119 = .ok (.invokevirtual 328, 3) := by decide +kernel
theorem dX10_fits_122 : decode cX10_fits 122 = .ok (.ireturn, 1) := by decide +kernel
theorem dX10_fits_123 : decode cX10_fits 123 = .ok (.iload 4, 2) := by decide +kernel
theorem dX10_fits_125 : decode cX10_fits 125 = .ok (.iconst 1, 1) := by decide +kernel
theorem dX10_fits_126 : decode cX10_fits 126 = .ok (.sipush 1000, 3) := by decide +kernel
theorem dX10_fits_129 : decode cX10_fits 129 = .ok (.invokestatic 217, 3) := by decide +kernel
theorem dX10_fits_132 : decode cX10_fits 132 = .ok (.ifCond .eq 18, 3) := by decide +kernel
theorem dX10_fits_135 : decode cX10_fits 135 = .ok (.iload 5, 2) := by decide +kernel
theorem dX10_fits_137 : decode cX10_fits 137 = .ok (.iconst 1, 1) := by decide +kernel
theorem dX10_fits_138 : decode cX10_fits 138 = .ok (.bipush 100, 2) := by decide +kernel
theorem dX10_fits_140 : decode cX10_fits 140 = .ok (.invokestatic 217, 3) := by decide +kernel
theorem dX10_fits_143 : decode cX10_fits 143 = .ok (.ifCond .eq 7, 3) := by decide +kernel
theorem dX10_fits_146 : decode cX10_fits 146 = .ok (.iconst 1, 1) := by decide +kernel
theorem dX10_fits_147 : decode cX10_fits 147 = .ok (.goto 4, 3) := by decide +kernel
theorem dX10_fits_150 : decode cX10_fits 150 = .ok (.iconst 0, 1) := by decide +kernel
theorem dX10_fits_151 : decode cX10_fits 151 = .ok (.ireturn, 1) := by decide +kernel
theorem dX10_fits_152 : decode cX10_fits 152 = .ok (.iload 6, 2) := by decide +kernel
theorem dX10_fits_154 : decode cX10_fits 154 = .ok (.iconst 1, 1) := by decide +kernel
theorem dX10_fits_155 : decode cX10_fits 155 = .ok (.iconst 2, 1) := by decide +kernel
theorem dX10_fits_156 : decode cX10_fits 156 = .ok (.invokestatic 217, 3) := by decide +kernel
theorem dX10_fits_159 : decode cX10_fits 159 = .ok (.ifCond .ne 43, 3) := by decide +kernel
theorem dX10_fits_162 : decode cX10_fits 162 = .ok (.iload 6, 2) := by decide +kernel
theorem dX10_fits_164 : decode cX10_fits 164 = .ok (.bipush 9, 2) := by decide +kernel
theorem dX10_fits_166 : decode cX10_fits 166 = .ok (.bipush 19, 2) := by decide +kernel
theorem dX10_fits_168 : decode cX10_fits 168 = .ok (.invokestatic 217, 3) := by decide +kernel
theorem dX10_fits_171 : decode cX10_fits 171 = .ok (.ifCond .ne 31, 3) := by decide +kernel
theorem dX10_fits_174 : decode cX10_fits 174 = .ok (.iload 6, 2) := by decide +kernel
theorem dX10_fits_176 : decode cX10_fits 176 = .ok (.bipush 34, 2) := by decide +kernel
theorem dX10_fits_178 : decode cX10_fits 178 = .ok (.if_icmp .eq 24, 3) := by decide +kernel
theorem dX10_fits_181 : decode cX10_fits 181 = .ok (.iload 6, 2) := by decide +kernel
theorem dX10_fits_183 : decode cX10_fits 183 = .ok (.bipush 37, 2) := by decide +kernel
theorem dX10_fits_185 : decode cX10_fits 185 = .ok (.if_icmp .eq 17, 3) := by decide +kernel
theorem dX10_fits_188 : decode cX10_fits 188 = .ok (.iload 6, 2) := by decide +kernel
theorem dX10_fits_190 : decode cX10_fits 190 = .ok (.bipush 38, 2) := by decide +kernel
theorem dX10_fits_192 : decode cX10_fits 192 = .ok (.if_icmp .eq 10, 3) := by decide +kernel
theorem dX10_fits_195 : decode cX10_fits 195 = .ok (.iload 6, 2) := by decide +kernel
theorem dX10_fits_197 : decode cX10_fits 197 = .ok (.bipush 40, 2) := by decide +kernel
theorem dX10_fits_199 : decode cX10_fits 199 = .ok (.if_icmp .ne 7, 3) := by decide +kernel
theorem dX10_fits_202 : decode cX10_fits 202 = .ok (.iconst 1, 1) := by decide +kernel
theorem dX10_fits_203 : decode cX10_fits 203 = .ok (.goto 4, 3) := by decide +kernel
theorem dX10_fits_206 : decode cX10_fits 206 = .ok (.iconst 0, 1) := by decide +kernel
theorem dX10_fits_207 : decode cX10_fits 207 = .ok (.ireturn, 1) := by decide +kernel
theorem dX10_fits_208 : decode cX10_fits 208 = .ok (.iconst 1, 1) := by decide +kernel
theorem dX10_fits_209 : decode cX10_fits 209 = .ok (.ireturn, 1) := by decide +kernel
theorem dX10_probe_0 : decode cX10_probe 0 = .ok (.iload_n 1, 1) := by decide +kernel
theorem dX10_probe_1 : decode cX10_probe 1 = .ok (.iconst 0, 1) := by decide +kernel
theorem dX10_probe_2 : decode cX10_probe 2 = .ok (.bipush 7, 2) := by decide +kernel
theorem dX10_probe_4 : decode cX10_probe 4 = .ok (.invokestatic 217, 3) := by decide +kernel
theorem dX10_probe_7 : decode cX10_probe 7 = .ok (.ifCond .eq 34, 3) := by decide +kernel
theorem dX10_probe_10 : decode cX10_probe 10 = .ok (.aload_n 0, 1) := by decide +kernel
theorem dX10_probe_11 : decode cX10_probe 11 = .ok (.iload_n 2, 1) := by decide +kernel
theorem dX10_probe_12 : decode cX10_probe 12 = .ok (.invokevirtual 318, 3) := by decide +kernel
theorem dX10_probe_15 : decode cX10_probe 15 = .ok (.ifCond .eq 26, 3) := by decide +kernel
theorem dX10_probe_18 : decode cX10_probe 18 = .ok (.aload_n 0, 1) := by decide +kernel
theorem dX10_probe_19 : decode cX10_probe 19 = .ok (.iload_n 2, 1) := by decide +kernel
theorem dX10_probe_20 : decode cX10_probe 20 = .ok (.iload_n 3, 1) := by decide +kernel
theorem dX10_probe_21 : decode cX10_probe 21 = .ok (.invokevirtual 274, 3) := by decide +kernel
theorem dX10_probe_24 : decode cX10_probe 24 = .ok (.ifCond .eq 17, 3) := by decide +kernel
theorem dX10_probe_27 : decode cX10_probe 27 = .ok (.aload_n 0, 1) := by decide +kernel
theorem dX10_probe_28 : decode cX10_probe 28 = .ok (.iload_n 1, 1) := by decide +kernel
theorem dX10_probe_29 : decode cX10_probe 29 = .ok (.iload_n 2, 1) := by decide +kernel
theorem dX10_probe_30 : decode cX10_probe 30 = .ok (.iload_n 3, 1) := by decide +kernel
theorem dX10_probe_31 : decode cX10_probe 31 = .ok (.iload 4, 2) := by decide +kernel
theorem dX10_probe_33 : decode cX10_probe 33 = .ok (.iload 5, 2) := by decide +kernel
theorem dX10_probe_35 : decode cX10_probe 35 = .ok (.invokevirtual 331, 3) := by decide +kernel
theorem dX10_probe_38 : decode cX10_probe 38 = .ok (.ifCond .ne 6, 3) := by decide +kernel
theorem dX10_probe_41 : decode cX10_probe 41 = .ok (.bipush (-2), 2) := by decide +kernel
theorem dX10_probe_43 : decode cX10_probe 43 = .ok (.ireturn, 1) := by decide +kernel
theorem dX10_probe_44 : decode cX10_probe 44 = .ok (.aload_n 0, 1) := by decide +kernel
theorem dX10_probe_45 : decode cX10_probe 45 = .ok (.getfield 335, 3) := by decide +kernel
theorem dX10_probe_48 : decode cX10_probe 48 = .ok (.bipush 24, 2) := by decide +kernel
theorem dX10_probe_50 : decode cX10_probe 50 = .ok (.if_icmp .ne 6, 3) := by decide +kernel
theorem dX10_probe_53 : decode cX10_probe 53 = .ok (.bipush (-3), 2) := by decide +kernel
theorem dX10_probe_55 : decode cX10_probe 55 = .ok (.ireturn, 1) := by decide +kernel
theorem dX10_probe_56 : decode cX10_probe 56 = .ok (.aload_n 0, 1) := by decide +kernel
theorem dX10_probe_57 : decode cX10_probe 57 = .ok (.getfield 57, 3) := by decide +kernel
theorem dX10_probe_60 : decode cX10_probe 60 = .ok (.aload_n 0, 1) := by decide +kernel
theorem dX10_probe_61 : decode cX10_probe 61 = .ok (.getfield 335, 3) := by decide +kernel
theorem dX10_probe_64 : decode cX10_probe 64 = .ok (.iload_n 1, 1) := by decide +kernel
theorem dX10_probe_65 : decode cX10_probe 65 = .ok (.iastore, 1) := by decide +kernel
theorem dX10_probe_66 : decode cX10_probe 66 = .ok (.aload_n 0, 1) := by decide +kernel
theorem dX10_probe_67 : decode cX10_probe 67 = .ok (.getfield 60, 3) := by decide +kernel
theorem dX10_probe_70 : decode cX10_probe 70 = .ok (.aload_n 0, 1) := by decide +kernel
theorem dX10_probe_71 : decode cX10_probe 71 = .ok (.getfield 335, 3) := by decide +kernel
theorem dX10_probe_74 : decode cX10_probe 74 = .ok (.iload_n 2, 1) := by decide +kernel
theorem dX10_probe_75 : decode cX10_probe 75 = .ok (.iastore, 1) := by decide +kernel
theorem dX10_probe_76 : decode cX10_probe 76 = .ok (.aload_n 0, 1) := by decide +kernel
theorem dX10_probe_77 : decode cX10_probe 77 = .ok (.getfield 63, 3) := by decide +kernel
theorem dX10_probe_80 : decode cX10_probe 80 = .ok (.aload_n 0, 1) := by decide +kernel
theorem dX10_probe_81 : decode cX10_probe 81 = .ok (.getfield 335, 3) := by decide +kernel
theorem dX10_probe_84 : decode cX10_probe 84 = .ok (.iload_n 3, 1) := by decide +kernel
theorem dX10_probe_85 : decode cX10_probe 85 = .ok (.iastore, 1) := by decide +kernel
theorem dX10_probe_86 : decode cX10_probe 86 = .ok (.aload_n 0, 1) := by decide +kernel
theorem dX10_probe_87 : decode cX10_probe 87 = .ok (.getfield 66, 3) := by decide +kernel
theorem dX10_probe_90 : decode cX10_probe 90 = .ok (.aload_n 0, 1) := by decide +kernel
theorem dX10_probe_91 : decode cX10_probe 91 = .ok (.getfield 335, 3) := by decide +kernel
theorem dX10_probe_94 : decode cX10_probe 94 = .ok (.iload 4, 2) := by decide +kernel
theorem dX10_probe_96 : decode cX10_probe 96 = .ok (.iastore, 1) := by decide +kernel
theorem dX10_probe_97 : decode cX10_probe 97 = .ok (.aload_n 0, 1) := by decide +kernel
theorem dX10_probe_98 : decode cX10_probe 98 = .ok (.getfield 69, 3) := by decide +kernel
theorem dX10_probe_101 : decode cX10_probe 101 = .ok (.aload_n 0, 1) := by decide +kernel
theorem dX10_probe_102 : decode cX10_probe 102 = .ok (.getfield 335, 3) := by decide +kernel
theorem dX10_probe_105 : decode cX10_probe 105 = .ok (.iload 5, 2) := by decide +kernel
theorem dX10_probe_107 : decode cX10_probe 107 = .ok (.iastore, 1) := by decide +kernel
theorem dX10_probe_108 : decode cX10_probe 108 = .ok (.aload_n 0, 1) := by decide +kernel
theorem dX10_probe_109 : decode cX10_probe 109 = .ok (.dup, 1) := by decide +kernel
theorem dX10_probe_110 : decode cX10_probe 110 = .ok (.getfield 335, 3) := by decide +kernel
theorem dX10_probe_113 : decode cX10_probe 113 = .ok (.iconst 1, 1) := by decide +kernel
theorem dX10_probe_114 : decode cX10_probe 114 = .ok (.iadd, 1) := by decide +kernel
theorem dX10_probe_115 : decode cX10_probe 115 = .ok (.putfield 335, 3) := by decide +kernel
theorem dX10_probe_118 : decode cX10_probe 118 = .ok (.aload_n 0, 1) := by decide +kernel
theorem dX10_probe_119 : decode cX10_probe 119 = .ok (.getfield 335, 3) := by decide +kernel
theorem dX10_probe_122 : decode cX10_probe 122 = .ok (.iconst 1, 1) := by decide +kernel
theorem dX10_probe_123 : decode cX10_probe 123 = .ok (.isub, 1) := by decide +kernel
theorem dX10_probe_124 : decode cX10_probe 124 = .ok (.ireturn, 1) := by decide +kernel
theorem dX10_clear_0 : decode cX10_clear 0 = .ok (.aload_n 0, 1) := by decide +kernel
theorem dX10_clear_1 : decode cX10_clear 1 = .ok (.getfield 335, 3) := by decide +kernel
theorem dX10_clear_4 : decode cX10_clear 4 = .ok (.istore_n 1, 1) := by decide +kernel
theorem dX10_clear_5 : decode cX10_clear 5 = .ok (.aload_n 0, 1) := by decide +kernel
theorem dX10_clear_6 : decode cX10_clear 6 = .ok (.iconst 0, 1) := by decide +kernel
theorem dX10_clear_7 : decode cX10_clear 7 = .ok (.putfield 335, 3) := by decide +kernel
theorem dX10_clear_10 : decode cX10_clear 10 = .ok (.iconst 0, 1) := by decide +kernel
theorem dX10_clear_11 : decode cX10_clear 11 = .ok (.istore_n 2, 1) := by decide +kernel
theorem dX10_clear_12 : decode cX10_clear 12 = .ok (.iload_n 2, 1) := by decide +kernel
theorem dX10_clear_13 : decode cX10_clear 13 = .ok (.bipush 6, 2) := by decide +kernel
theorem dX10_clear_15 : decode cX10_clear 15 = .ok (.if_icmp .ge 16, 3) := by decide +kernel
theorem dX10_clear_18 : decode cX10_clear 18 = .ok (.aload_n 0, 1) := by decide +kernel
theorem dX10_clear_19 : decode cX10_clear 19 = .ok (.getfield 72, 3) := by decide +kernel
theorem dX10_clear_22 : decode cX10_clear 22 = .ok (.iload_n 2, 1) := by decide +kernel
theorem dX10_clear_23 : decode cX10_clear 23 = .ok (.iconst (-1), 1) := by decide +kernel
theorem dX10_clear_24 : decode cX10_clear 24 = .ok (.iastore, 1) := by decide +kernel
theorem dX10_clear_25 : decode cX10_clear 25 = .ok (.iinc 2 1, 3) := by decide +kernel
theorem dX10_clear_28 : decode cX10_clear 28 = .ok (.goto (-16), 3) := by decide +kernel
theorem dX10_clear_31 : decode cX10_clear 31 = .ok (.iload_n 1, 1) := by decide +kernel
theorem dX10_clear_32 : decode cX10_clear 32 = .ok (.ireturn, 1) := by decide +kernel
theorem dX10_stands_0 : decode cX10_stands 0 = .ok (.iload_n 1, 1) := by decide +kernel
theorem dX10_stands_1 : decode cX10_stands 1 = .ok (.iload 5, 2) := by decide +kernel
theorem dX10_stands_3 : decode cX10_stands 3 = .ok (.if_icmp .ge 38, 3) := by decide +kernel
theorem dX10_stands_6 : decode cX10_stands 6 = .ok (.aload_n 0, 1) := by decide +kernel
theorem dX10_stands_7 : decode cX10_stands 7 = .ok (.getfield 57, 3) := by decide +kernel
theorem dX10_stands_10 : decode cX10_stands 10 = .ok (.iload_n 1, 1) := by decide +kernel
theorem dX10_stands_11 : decode cX10_stands 11 = .ok (.iaload, 1) := by decide +kernel
theorem dX10_stands_12 : decode cX10_stands 12 = .ok (.iload_n 2, 1) := by decide +kernel
theorem dX10_stands_13 : decode cX10_stands 13 = .ok (.if_icmp .ne 28, 3) := by decide +kernel
theorem dX10_stands_16 : decode cX10_stands 16 = .ok (.aload_n 0, 1) := by decide +kernel
theorem dX10_stands_17 : decode cX10_stands 17 = .ok (.getfield 60, 3) := by decide +kernel
theorem dX10_stands_20 : decode cX10_stands 20 = .ok (.iload_n 1, 1) := by decide +kernel
theorem dX10_stands_21 : decode cX10_stands 21 = .ok (.iaload, 1) := by decide +kernel
theorem dX10_stands_22 : decode cX10_stands 22 = .ok (.iload_n 3, 1) := by decide +kernel
theorem dX10_stands_23 : decode cX10_stands 23 = .ok (.if_icmp .ne 18, 3) := by decide +kernel
theorem dX10_stands_26 : decode cX10_stands 26 = .ok (.aload_n 0, 1) := by decide +kernel
theorem dX10_stands_27 : decode cX10_stands 27 = .ok (.getfield 63, 3) := by decide +kernel
theorem dX10_stands_30 : decode cX10_stands 30 = .ok (.iload_n 1, 1) := by decide +kernel
theorem dX10_stands_31 : decode cX10_stands 31 = .ok (.iaload, 1) := by decide +kernel
theorem dX10_stands_32 : decode cX10_stands 32 = .ok (.iload 4, 2) := by decide +kernel
theorem dX10_stands_34 : decode cX10_stands 34 = .ok (.if_icmp .ne 7, 3) := by decide +kernel
theorem dX10_stands_37 : decode cX10_stands 37 = .ok (.iconst 1, 1) := by decide +kernel
theorem dX10_stands_38 : decode cX10_stands 38 = .ok (.goto 4, 3) := by decide +kernel
theorem dX10_stands_41 : decode cX10_stands 41 = .ok (.iconst 0, 1) := by decide +kernel
theorem dX10_stands_42 : decode cX10_stands 42 = .ok (.ireturn, 1) := by decide +kernel
theorem dX10_howMany_0 : decode cX10_howMany 0 = .ok (.iconst 0, 1) := by decide +kernel
theorem dX10_howMany_1 : decode cX10_howMany 1 = .ok (.istore 5, 2) := by decide +kernel
theorem dX10_howMany_3 : decode cX10_howMany 3 = .ok (.iconst 0, 1) := by decide +kernel
theorem dX10_howMany_4 : decode cX10_howMany 4 = .ok (.istore 6, 2) := by decide +kernel
theorem dX10_howMany_6 : decode cX10_howMany 6 = .ok (.iload 6, 2) := by decide +kernel
theorem dX10_howMany_8 : decode cX10_howMany 8 = .ok (.iload 4, 2) := by decide +kernel
theorem dX10_howMany_10 : decode cX10_howMany 10 = .ok (.if_icmp .ge 34, 3) := by decide +kernel
theorem dX10_howMany_13 : decode cX10_howMany 13 = .ok (.aload_n 0, 1) := by decide +kernel
theorem dX10_howMany_14 : decode cX10_howMany 14 = .ok (.iload 6, 2) := by decide +kernel
theorem dX10_howMany_16 : decode cX10_howMany 16 = .ok (.iload_n 1, 1) := by decide +kernel
theorem dX10_howMany_17 : decode cX10_howMany 17 = .ok (.iload_n 2, 1) := by decide +kernel
theorem dX10_howMany_18 : decode cX10_howMany 18 = .ok (.iload_n 3, 1) := by decide +kernel
theorem dX10_howMany_19 : decode cX10_howMany 19 = .ok (.iload 4, 2) := by decide +kernel
theorem dX10_howMany_21 : decode cX10_howMany 21 = .ok (.invokevirtual 338, 3) := by decide +kernel
theorem dX10_howMany_24 : decode cX10_howMany 24 = .ok (.ifCond .eq 10, 3) := by decide +kernel
theorem dX10_howMany_27 : decode cX10_howMany 27 = .ok (.iload 5, 2) := by decide +kernel
theorem dX10_howMany_29 : decode cX10_howMany 29 = .ok (.iconst 1, 1) := by decide +kernel
theorem dX10_howMany_30 : decode cX10_howMany 30 = .ok (.iadd, 1) := by decide +kernel
theorem dX10_howMany_31 : decode cX10_howMany 31 = .ok (.goto 5, 3) := by decide +kernel
theorem dX10_howMany_34 : decode cX10_howMany 34 = .ok (.iload 5, 2) := by decide +kernel
theorem dX10_howMany_36 : decode cX10_howMany 36 = .ok (.istore 5, 2) := by decide +kernel
theorem dX10_howMany_38 : decode cX10_howMany 38 = .ok (.iinc 6 1, 3) := by decide +kernel
theorem dX10_howMany_41 : decode cX10_howMany 41 = .ok (.goto (-35), 3) := by decide +kernel
theorem dX10_howMany_44 : decode cX10_howMany 44 = .ok (.iload 5, 2) := by decide +kernel
theorem dX10_howMany_46 : decode cX10_howMany 46 = .ok (.ireturn, 1) := by decide +kernel
theorem dX10_put_0 : decode cX10_put 0 = .ok (.aload_n 0, 1) := by decide +kernel
theorem dX10_put_1 : decode cX10_put 1 = .ok (.getfield 341, 3) := by decide +kernel
theorem dX10_put_4 : decode cX10_put 4 = .ok (.sipush 4000, 3) := by decide +kernel
theorem dX10_put_7 : decode cX10_put 7 = .ok (.if_icmp .ge 27, 3) := by decide +kernel
theorem dX10_put_10 : decode cX10_put 10 = .ok (.aload_n 0, 1) := by decide +kernel
theorem dX10_put_11 : decode cX10_put 11 = .ok (.getfield 114, 3) := by decide +kernel
theorem dX10_put_14 : decode cX10_put 14 = .ok (.aload_n 0, 1) := by decide +kernel
theorem dX10_put_15 : decode cX10_put 15 = .ok (.getfield 341, 3) := by decide +kernel
theorem dX10_put_18 : decode cX10_put 18 = .ok (.iload_n 1, 1) := by decide +kernel
theorem dX10_put_19 : decode cX10_put 19 = .ok (.sipush 255, 3) := by decide +kernel
theorem dX10_put_22 : decode cX10_put 22 = .ok (.iand, 1) := by decide +kernel
theorem dX10_put_23 : decode cX10_put 23 = .ok (.iastore, 1) := by decide +kernel
theorem dX10_put_24 : decode cX10_put 24 = .ok (.aload_n 0, 1) := by decide +kernel
theorem dX10_put_25 : decode cX10_put 25 = .ok (.getfield 117, 3) := by decide +kernel
theorem dX10_put_28 : decode cX10_put 28 = .ok (.aload_n 0, 1) := by decide +kernel
theorem dX10_put_29 : decode cX10_put 29 = .ok (.getfield 341, 3) := by decide +kernel
theorem dX10_put_32 : decode cX10_put 32 = .ok (.iconst (-1), 1) := by decide +kernel
theorem dX10_put_33 : decode cX10_put 33 = .ok (.iastore, 1) := by decide +kernel
theorem dX10_put_34 : decode cX10_put 34 = .ok (.aload_n 0, 1) := by decide +kernel
theorem dX10_put_35 : decode cX10_put 35 = .ok (.dup, 1) := by decide +kernel
theorem dX10_put_36 : decode cX10_put 36 = .ok (.getfield 341, 3) := by decide +kernel
theorem dX10_put_39 : decode cX10_put 39 = .ok (.iconst 1, 1) := by decide +kernel
theorem dX10_put_40 : decode cX10_put 40 = .ok (.iadd, 1) := by decide +kernel
theorem dX10_put_41 : decode cX10_put 41 = .ok (.putfield 341, 3) := by decide +kernel
theorem dX10_put_44 : decode cX10_put 44 = .ok (.return_, 1) := by decide +kernel
theorem dX10_probeOp_0 : decode cX10_probeOp 0 = .ok (.aload_n 0, 1) := by decide +kernel
theorem dX10_probeOp_1 : decode cX10_probeOp 1 = .ok (.iload_n 1, 1) := by decide +kernel
theorem dX10_probeOp_2 : decode cX10_probeOp 2 = .ok (.invokevirtual 344, 3) := by decide +kernel
theorem dX10_probeOp_5 : decode cX10_probeOp 5 = .ok (.aload_n 0, 1) := by decide +kernel
theorem dX10_probeOp_6 : decode cX10_probeOp 6 = .ok (.iload_n 2, 1) := by decide +kernel
theorem dX10_probeOp_7 : decode cX10_probeOp 7 = .ok (.invokevirtual 344, 3) := by decide +kernel
theorem dX10_probeOp_10 : decode cX10_probeOp 10 = .ok (.return_, 1) := by decide +kernel
theorem dX10_weave_0 : decode cX10_weave 0 = .ok (.aload_n 0, 1) := by decide +kernel
theorem dX10_weave_1 : decode cX10_weave 1 = .ok (.iload_n 1, 1) := by decide +kernel
theorem dX10_weave_2 : decode cX10_weave 2 = .ok (.invokevirtual 318, 3) := by decide +kernel
theorem dX10_weave_5 : decode cX10_weave 5 = .ok (.ifCond .ne 6, 3) := by decide +kernel
theorem dX10_weave_8 : decode cX10_weave 8 = .ok (.bipush (-2), 2) := by decide +kernel
theorem dX10_weave_10 : decode cX10_weave 10 = .ok (.ireturn, 1) := by decide +kernel
theorem dX10_weave_11 : decode cX10_weave 11 = .ok (.iconst 0, 1) := by decide +kernel
theorem dX10_weave_12 : decode cX10_weave 12 = .ok (.istore_n 2, 1) := by decide +kernel
theorem dX10_weave_13 : decode cX10_weave 13 = .ok (.iload_n 2, 1) := by decide +kernel
theorem dX10_weave_14 : decode cX10_weave 14 = .ok (.sipush 1000, 3) := by decide +kernel
theorem dX10_weave_17 : decode cX10_weave 17 = .ok (.if_icmp .ge 64, 3) := by decide +kernel
theorem dX10_weave_20 : decode cX10_weave 20 = .ok (.aload_n 0, 1) := by decide +kernel
theorem dX10_weave_21 : decode cX10_weave 21 = .ok (.getfield 129, 3) := by decide +kernel
theorem dX10_weave_24 : decode cX10_weave 24 = .ok (.iload_n 2, 1) := by decide +kernel
theorem dX10_weave_25 : decode cX10_weave 25 = .ok (.iload_n 2, 1) := by decide +kernel
theorem dX10_weave_26 : decode cX10_weave 26 = .ok (.sipush 400, 3) := by decide +kernel
theorem dX10_weave_29 : decode cX10_weave 29 = .ok (.if_icmp .ge 44, 3) := by decide +kernel
theorem dX10_weave_32 : decode cX10_weave 32 = .ok (.aload_n 0, 1) := by decide +kernel
theorem dX10_weave_33 : decode cX10_weave 33 = .ok (.getfield 44, 3) := by decide +kernel
theorem dX10_weave_36 : decode cX10_weave 36 = .ok (.sipush 400, 3) := by decide +kernel
theorem dX10_weave_39 : decode cX10_weave 39 = .ok (.iload_n 1, 1) := by decide +kernel
theorem dX10_weave_40 : decode cX10_weave 40 = .ok (.imul, 1) := by decide +kernel
theorem dX10_weave_41 : decode cX10_weave 41 = .ok (.iload_n 2, 1) := by decide +kernel
theorem dX10_weave_42 : decode cX10_weave 42 = .ok (.iadd, 1) := by decide +kernel
theorem dX10_weave_43 : decode cX10_weave 43 = .ok (.baload, 1) := by decide +kernel
theorem dX10_weave_44 : decode cX10_weave 44 = .ok (.ifCond .eq 29, 3) := by decide +kernel
theorem dX10_weave_47 : decode cX10_weave 47 = .ok (.aload_n 0, 1) := by decide +kernel
theorem dX10_weave_48 : decode cX10_weave 48 = .ok (.getfield 26, 3) := by decide +kernel
theorem dX10_weave_51 : decode cX10_weave 51 = .ok (.sipush 400, 3) := by decide +kernel
theorem dX10_weave_54 : decode cX10_weave 54 = .ok (.iload_n 1, 1) := by decide +kernel
theorem dX10_weave_55 : decode cX10_weave 55 = .ok (.imul, 1) := by decide +kernel
theorem dX10_weave_56 : decode cX10_weave 56 = .ok (.iload_n 2, 1) := by decide +kernel
theorem dX10_weave_57 : decode cX10_weave 57 = .ok (.iadd, 1) := by decide +kernel
theorem dX10_weave_58 : decode cX10_weave 58 = .ok (.iaload, 1) := by decide +kernel
theorem dX10_weave_59 : decode cX10_weave 59 = .ok (.bipush 84, 2) := by decide +kernel
theorem dX10_weave_61 : decode cX10_weave 61 = .ok (.bipush 96, 2) := by decide +kernel
theorem dX10_weave_63 : decode cX10_weave 63 = .ok (.invokestatic 217, 3) := by decide +kernel
theorem dX10_weave_66 : decode cX10_weave 66 = .ok (.ifCond .eq 7, 3) := by decide +kernel
theorem dX10_weave_69 : decode cX10_weave 69 = .ok (.iconst 1, 1) := by decide +kernel
theorem dX10_weave_70 : decode cX10_weave 70 = .ok (.goto 4, 3) := by decide +kernel
theorem dX10_weave_73 : decode cX10_weave 73 = .ok (.iconst 0, 1) := by decide +kernel
theorem dX10_weave_74 : decode cX10_weave 74 = .ok (.bastore, 1) := by decide +kernel
