theorem dX0_init_0 : decode cX0_init 0 = .ok (.aload_n 0, 1) := by decide +kernel
theorem dX0_init_1 : decode cX0_init 1 = .ok (.invokespecial 3, 3) := by decide +kernel
theorem dX0_init_4 : decode cX0_init 4 = .ok (.aload_n 0, 1) := by decide +kernel
theorem dX0_init_5 : decode cX0_init 5 = .ok (.bipush 12, 2) := by decide +kernel
theorem dX0_init_7 : decode cX0_init 7 = .ok (.newarray .int, 2) := by decide +kernel
theorem dX0_init_9 : decode cX0_init 9 = .ok (.putfield 9, 3) := by decide +kernel
theorem dX0_init_12 : decode cX0_init 12 = .ok (.aload_n 0, 1) := by decide +kernel
theorem dX0_init_13 : decode cX0_init 13 = .ok (.bipush 10, 2) := by decide +kernel
theorem dX0_init_15 : decode cX0_init 15 = .ok (.newarray .int, 2) := by decide +kernel
theorem dX0_init_17 : decode cX0_init 17 = .ok (.putfield 15, 3) := by decide +kernel
theorem dX0_init_20 : decode cX0_init 20 = .ok (.aload_n 0, 1) := by decide +kernel
theorem dX0_init_21 : decode cX0_init 21 = .ok (.iconst 0, 1) := by decide +kernel
theorem dX0_init_22 : decode cX0_init 22 = .ok (.putfield 18, 3) := by decide +kernel
theorem dX0_init_25 : decode cX0_init 25 = .ok (.aload_n 0, 1) := by decide +kernel
theorem dX0_init_26 : decode cX0_init 26 = .ok (.iconst 0, 1) := by decide +kernel
theorem dX0_init_27 : decode cX0_init 27 = .ok (.putfield 22, 3) := by decide +kernel
theorem dX0_init_30 : decode cX0_init 30 = .ok (.aload_n 0, 1) := by decide +kernel
theorem dX0_init_31 : decode cX0_init 31 = .ok (.iconst 0, 1) := by decide +kernel
theorem dX0_init_32 : decode cX0_init 32 = .ok (.putfield 26, 3) := by decide +kernel
theorem dX0_init_35 : decode cX0_init 35 = .ok (.aload_n 0, 1) := by decide +kernel
theorem dX0_init_36 : decode cX0_init 36 = .ok (.aload_n 1, 1) := by decide +kernel
theorem dX0_init_37 : decode cX0_init 37 = .ok (.putfield 29, 3) := by decide +kernel
theorem dX0_init_40 : decode cX0_init 40 = .ok (.return_, 1) := by decide +kernel
theorem dX0_begin_0 : decode cX0_begin 0 = .ok (.aload_n 0, 1) := by decide +kernel
theorem dX0_begin_1 : decode cX0_begin 1 = .ok (.aload_n 1, 1) := by decide +kernel
theorem dX0_begin_2 : decode cX0_begin 2 = .ok (.putfield 29, 3) := by decide +kernel
theorem dX0_begin_5 : decode cX0_begin 5 = .ok (.aload_n 0, 1) := by decide +kernel
theorem dX0_begin_6 : decode cX0_begin 6 = .ok (.iload_n 2, 1) := by decide +kernel
theorem dX0_begin_7 : decode cX0_begin 7 = .ok (.putfield 22, 3) := by decide +kernel
theorem dX0_begin_10 : decode cX0_begin 10 = .ok (.aload_n 0, 1) := by decide +kernel
theorem dX0_begin_11 : decode cX0_begin 11 = .ok (.iconst 0, 1) := by decide +kernel
theorem dX0_begin_12 : decode cX0_begin 12 = .ok (.putfield 26, 3) := by decide +kernel
theorem dX0_begin_15 : decode cX0_begin 15 = .ok (.aload_n 0, 1) := by decide +kernel
theorem dX0_begin_16 : decode cX0_begin 16 = .ok (.iconst 0, 1) := by decide +kernel
theorem dX0_begin_17 : decode cX0_begin 17 = .ok (.putfield 18, 3) := by decide +kernel
theorem dX0_begin_20 : decode cX0_begin 20 = .ok (.aload_n 0, 1) := by decide +kernel
theorem dX0_begin_21 : decode cX0_begin 21 = .ok (.getfield 9, 3) := by decide +kernel
theorem dX0_begin_24 : decode cX0_begin 24 = .ok (.iconst 0, 1) := by decide +kernel
theorem dX0_begin_25 : decode cX0_begin 25 = .ok (.invokestatic 33, 3) := by decide +kernel
theorem dX0_begin_28 : decode cX0_begin 28 = .ok (.return_, 1) := by decide +kernel
theorem dX0_code_0 : decode cX0_code 0 = .ok (.aload_n 0, 1) := by decide +kernel
theorem dX0_code_1 : decode cX0_code 1 = .ok (.getfield 22, 3) := by decide +kernel
theorem dX0_code_4 : decode cX0_code 4 = .ok (.ifCond .eq 16, 3) := by decide +kernel
theorem dX0_code_7 : decode cX0_code 7 = .ok (.aload_n 0, 1) := by decide +kernel
theorem dX0_code_8 : decode cX0_code 8 = .ok (.getfield 29, 3) := by decide +kernel
theorem dX0_code_11 : decode cX0_code 11 = .ok (.getfield 39, 3) := by decide +kernel
theorem dX0_code_14 : decode cX0_code 14 = .ok (.getfield 45, 3) := by decide +kernel
theorem dX0_code_17 : decode cX0_code 17 = .ok (.goto 10, 3) := by decide +kernel
theorem dX0_code_20 : decode cX0_code 20 = .ok (.aload_n 0, 1) := by decide +kernel
theorem dX0_code_21 : decode cX0_code 21 = .ok (.getfield 29, 3) := by decide +kernel
theorem dX0_code_24 : decode cX0_code 24 = .ok (.getfield 50, 3) := by decide +kernel
theorem dX0_code_27 : decode cX0_code 27 = .ok (.areturn, 1) := by decide +kernel
theorem dX0_operand_0 : decode cX0_operand 0 = .ok (.aload_n 0, 1) := by decide +kernel
theorem dX0_operand_1 : decode cX0_operand 1 = .ok (.invokevirtual 51, 3) := by decide +kernel
theorem dX0_operand_4 : decode cX0_operand 4 = .ok (.aload_n 0, 1) := by decide +kernel
theorem dX0_operand_5 : decode cX0_operand 5 = .ok (.getfield 26, 3) := by decide +kernel
theorem dX0_operand_8 : decode cX0_operand 8 = .ok (.iconst 1, 1) := by decide +kernel
theorem dX0_operand_9 : decode cX0_operand 9 = .ok (.iadd, 1) := by decide +kernel
theorem dX0_operand_10 : decode cX0_operand 10 = .ok (.invokestatic 54, 3) := by decide +kernel
theorem dX0_operand_13 : decode cX0_operand 13 = .ok (.ireturn, 1) := by decide +kernel
theorem dX0_homePlace_0 : decode cX0_homePlace 0 = .ok (.aload_n 0, 1) := by decide +kernel
theorem dX0_homePlace_1 : decode cX0_homePlace 1 = .ok (.getfield 22, 3) := by decide +kernel
theorem dX0_homePlace_4 : decode cX0_homePlace 4 = .ok (.ifCond .eq 20, 3) := by decide +kernel
theorem dX0_homePlace_7 : decode cX0_homePlace 7 = .ok (.aload_n 0, 1) := by decide +kernel
theorem dX0_homePlace_8 : decode cX0_homePlace 8 = .ok (.getfield 29, 3) := by decide +kernel
theorem dX0_homePlace_11 : decode cX0_homePlace 11 = .ok (.getfield 39, 3) := by decide +kernel
theorem dX0_homePlace_14 : decode cX0_homePlace 14 = .ok (.aload_n 0, 1) := by decide +kernel
theorem dX0_homePlace_15 : decode cX0_homePlace 15 = .ok (.getfield 26, 3) := by decide +kernel
theorem dX0_homePlace_18 : decode cX0_homePlace 18 = .ok (.invokevirtual 58, 3) := by decide +kernel
theorem dX0_homePlace_21 : decode cX0_homePlace 21 = .ok (.goto 7, 3) := by decide +kernel
theorem dX0_homePlace_24 : decode cX0_homePlace 24 = .ok (.aload_n 0, 1) := by decide +kernel
theorem dX0_homePlace_25 : decode cX0_homePlace 25 = .ok (.getfield 26, 3) := by decide +kernel
theorem dX0_homePlace_28 : decode cX0_homePlace 28 = .ok (.ireturn, 1) := by decide +kernel
theorem dX0_push_0 : decode cX0_push 0 = .ok (.aload_n 0, 1) := by decide +kernel
theorem dX0_push_1 : decode cX0_push 1 = .ok (.getfield 18, 3) := by decide +kernel
theorem dX0_push_4 : decode cX0_push 4 = .ok (.ifCond .lt 32, 3) := by decide +kernel
theorem dX0_push_7 : decode cX0_push 7 = .ok (.aload_n 0, 1) := by decide +kernel
theorem dX0_push_8 : decode cX0_push 8 = .ok (.getfield 18, 3) := by decide +kernel
theorem dX0_push_11 : decode cX0_push 11 = .ok (.bipush 10, 2) := by decide +kernel
theorem dX0_push_13 : decode cX0_push 13 = .ok (.if_icmp .ge 23, 3) := by decide +kernel
theorem dX0_push_16 : decode cX0_push 16 = .ok (.aload_n 0, 1) := by decide +kernel
theorem dX0_push_17 : decode cX0_push 17 = .ok (.getfield 15, 3) := by decide +kernel
theorem dX0_push_20 : decode cX0_push 20 = .ok (.aload_n 0, 1) := by decide +kernel
theorem dX0_push_21 : decode cX0_push 21 = .ok (.getfield 18, 3) := by decide +kernel
theorem dX0_push_24 : decode cX0_push 24 = .ok (.iload_n 1, 1) := by decide +kernel
theorem dX0_push_25 : decode cX0_push 25 = .ok (.iastore, 1) := by decide +kernel
theorem dX0_push_26 : decode cX0_push 26 = .ok (.aload_n 0, 1) := by decide +kernel
theorem dX0_push_27 : decode cX0_push 27 = .ok (.dup, 1) := by decide +kernel
theorem dX0_push_28 : decode cX0_push 28 = .ok (.getfield 18, 3) := by decide +kernel
theorem dX0_push_31 : decode cX0_push 31 = .ok (.iconst 1, 1) := by decide +kernel
theorem dX0_push_32 : decode cX0_push 32 = .ok (.iadd, 1) := by decide +kernel
theorem dX0_push_33 : decode cX0_push 33 = .ok (.putfield 18, 3) := by decide +kernel
theorem dX0_push_36 : decode cX0_push 36 = .ok (.return_, 1) := by decide +kernel
theorem dX0_pop_0 : decode cX0_pop 0 = .ok (.aload_n 0, 1) := by decide +kernel
theorem dX0_pop_1 : decode cX0_pop 1 = .ok (.getfield 18, 3) := by decide +kernel
theorem dX0_pop_4 : decode cX0_pop 4 = .ok (.iconst 1, 1) := by decide +kernel
theorem dX0_pop_5 : decode cX0_pop 5 = .ok (.if_icmp .lt 12, 3) := by decide +kernel
theorem dX0_pop_8 : decode cX0_pop 8 = .ok (.aload_n 0, 1) := by decide +kernel
theorem dX0_pop_9 : decode cX0_pop 9 = .ok (.getfield 18, 3) := by decide +kernel
theorem dX0_pop_12 : decode cX0_pop 12 = .ok (.bipush 10, 2) := by decide +kernel
theorem dX0_pop_14 : decode cX0_pop 14 = .ok (.if_icmp .le 5, 3) := by decide +kernel
theorem dX0_pop_17 : decode cX0_pop 17 = .ok (.iconst 0, 1) := by decide +kernel
theorem dX0_pop_18 : decode cX0_pop 18 = .ok (.ireturn, 1) := by decide +kernel
theorem dX0_pop_19 : decode cX0_pop 19 = .ok (.aload_n 0, 1) := by decide +kernel
theorem dX0_pop_20 : decode cX0_pop 20 = .ok (.dup, 1) := by decide +kernel
theorem dX0_pop_21 : decode cX0_pop 21 = .ok (.getfield 18, 3) := by decide +kernel
theorem dX0_pop_24 : decode cX0_pop 24 = .ok (.iconst 1, 1) := by decide +kernel
theorem dX0_pop_25 : decode cX0_pop 25 = .ok (.isub, 1) := by decide +kernel
theorem dX0_pop_26 : decode cX0_pop 26 = .ok (.putfield 18, 3) := by decide +kernel
theorem dX0_pop_29 : decode cX0_pop 29 = .ok (.aload_n 0, 1) := by decide +kernel
theorem dX0_pop_30 : decode cX0_pop 30 = .ok (.getfield 15, 3) := by decide +kernel
theorem dX0_pop_33 : decode cX0_pop 33 = .ok (.aload_n 0, 1) := by decide +kernel
theorem dX0_pop_34 : decode cX0_pop 34 = .ok (.getfield 18, 3) := by decide +kernel
theorem dX0_pop_37 : decode cX0_pop 37 = .ok (.iaload, 1) := by decide +kernel
theorem dX0_pop_38 : decode cX0_pop 38 = .ok (.ireturn, 1) := by decide +kernel
theorem dX0_peek_0 : decode cX0_peek 0 = .ok (.aload_n 0, 1) := by decide +kernel
theorem dX0_peek_1 : decode cX0_peek 1 = .ok (.getfield 18, 3) := by decide +kernel
theorem dX0_peek_4 : decode cX0_peek 4 = .ok (.iconst 1, 1) := by decide +kernel
theorem dX0_peek_5 : decode cX0_peek 5 = .ok (.isub, 1) := by decide +kernel
theorem dX0_peek_6 : decode cX0_peek 6 = .ok (.iload_n 1, 1) := by decide +kernel
theorem dX0_peek_7 : decode cX0_peek 7 = .ok (.isub, 1) := by decide +kernel
theorem dX0_peek_8 : decode cX0_peek 8 = .ok (.istore_n 2, 1) := by decide +kernel
theorem dX0_peek_9 : decode cX0_peek 9 = .ok (.iload_n 2, 1) := by decide +kernel
theorem dX0_peek_10 : decode cX0_peek 10 = .ok (.ifCond .lt 18, 3) := by decide +kernel
theorem dX0_peek_13 : decode cX0_peek 13 = .ok (.iload_n 2, 1) := by decide +kernel
theorem dX0_peek_14 : decode cX0_peek 14 = .ok (.bipush 10, 2) := by decide +kernel
theorem dX0_peek_16 : decode cX0_peek 16 = .ok (.if_icmp .ge 12, 3) := by decide +kernel
theorem dX0_peek_19 : decode cX0_peek 19 = .ok (.aload_n 0, 1) := by decide +kernel
theorem dX0_peek_20 : decode cX0_peek 20 = .ok (.getfield 15, 3) := by decide +kernel
theorem dX0_peek_23 : decode cX0_peek 23 = .ok (.iload_n 2, 1) := by decide +kernel
theorem dX0_peek_24 : decode cX0_peek 24 = .ok (.iaload, 1) := by decide +kernel
theorem dX0_peek_25 : decode cX0_peek 25 = .ok (.goto 4, 3) := by decide +kernel
theorem dX0_peek_28 : decode cX0_peek 28 = .ok (.iconst 0, 1) := by decide +kernel
theorem dX0_peek_29 : decode cX0_peek 29 = .ok (.ireturn, 1) := by decide +kernel
theorem dX0_local_0 : decode cX0_local 0 = .ok (.iload_n 1, 1) := by decide +kernel
theorem dX0_local_1 : decode cX0_local 1 = .ok (.ifCond .lt 18, 3) := by decide +kernel
theorem dX0_local_4 : decode cX0_local 4 = .ok (.iload_n 1, 1) := by decide +kernel
theorem dX0_local_5 : decode cX0_local 5 = .ok (.bipush 12, 2) := by decide +kernel
theorem dX0_local_7 : decode cX0_local 7 = .ok (.if_icmp .ge 12, 3) := by decide +kernel
theorem dX0_local_10 : decode cX0_local 10 = .ok (.aload_n 0, 1) := by decide +kernel
theorem dX0_local_11 : decode cX0_local 11 = .ok (.getfield 9, 3) := by decide +kernel
theorem dX0_local_14 : decode cX0_local 14 = .ok (.iload_n 1, 1) := by decide +kernel
theorem dX0_local_15 : decode cX0_local 15 = .ok (.iaload, 1) := by decide +kernel
theorem dX0_local_16 : decode cX0_local 16 = .ok (.goto 4, 3) := by decide +kernel
theorem dX0_local_19 : decode cX0_local 19 = .ok (.iconst 0, 1) := by decide +kernel
theorem dX0_local_20 : decode cX0_local 20 = .ok (.ireturn, 1) := by decide +kernel
theorem dX0_setLocal_0 : decode cX0_setLocal 0 = .ok (.iload_n 1, 1) := by decide +kernel
theorem dX0_setLocal_1 : decode cX0_setLocal 1 = .ok (.ifCond .lt 16, 3) := by decide +kernel
theorem dX0_setLocal_4 : decode cX0_setLocal 4 = .ok (.iload_n 1, 1) := by decide +kernel
theorem dX0_setLocal_5 : decode cX0_setLocal 5 = .ok (.bipush 12, 2) := by decide +kernel
theorem dX0_setLocal_7 : decode cX0_setLocal 7 = .ok (.if_icmp .ge 10, 3) := by decide +kernel
theorem dX0_setLocal_10 : decode cX0_setLocal 10 = .ok (.aload_n 0, 1) := by decide +kernel
theorem dX0_setLocal_11 : decode cX0_setLocal 11 = .ok (.getfield 9, 3) := by decide +kernel
theorem dX0_setLocal_14 : decode cX0_setLocal 14 = .ok (.iload_n 1, 1) := by decide +kernel
theorem dX0_setLocal_15 : decode cX0_setLocal 15 = .ok (.iload_n 2, 1) := by decide +kernel
theorem dX0_setLocal_16 : decode cX0_setLocal 16 = .ok (.iastore, 1) := by decide +kernel
theorem dX0_setLocal_17 : decode cX0_setLocal 17 = .ok (.return_, 1) := by decide +kernel
theorem dX0_catches_0 : decode cX0_catches 0 = .ok (.aload_n 0, 1) := by decide +kernel
theorem dX0_catches_1 : decode cX0_catches 1 = .ok (.getfield 22, 3) := by decide +kernel
theorem dX0_catches_4 : decode cX0_catches 4 = .ok (.ifCond .eq 16, 3) := by decide +kernel
theorem dX0_catches_7 : decode cX0_catches 7 = .ok (.aload_n 0, 1) := by decide +kernel
theorem dX0_catches_8 : decode cX0_catches 8 = .ok (.getfield 29, 3) := by decide +kernel
theorem dX0_catches_11 : decode cX0_catches 11 = .ok (.getfield 39, 3) := by decide +kernel
theorem dX0_catches_14 : decode cX0_catches 14 = .ok (.getfield 62, 3) := by decide +kernel
theorem dX0_catches_17 : decode cX0_catches 17 = .ok (.goto 10, 3) := by decide +kernel
theorem dX0_catches_20 : decode cX0_catches 20 = .ok (.aload_n 0, 1) := by decide +kernel
theorem dX0_catches_21 : decode cX0_catches 21 = .ok (.getfield 29, 3) := by decide +kernel
theorem dX0_catches_24 : decode cX0_catches 24 = .ok (.getfield 65, 3) := by decide +kernel
theorem dX0_catches_27 : decode cX0_catches 27 = .ok (.istore_n 2, 1) := by decide +kernel
theorem dX0_catches_28 : decode cX0_catches 28 = .ok (.aload_n 0, 1) := by decide +kernel
theorem dX0_catches_29 : decode cX0_catches 29 = .ok (.getfield 22, 3) := by decide +kernel
theorem dX0_catches_32 : decode cX0_catches 32 = .ok (.ifCond .eq 16, 3) := by decide +kernel
theorem dX0_catches_35 : decode cX0_catches 35 = .ok (.aload_n 0, 1) := by decide +kernel
theorem dX0_catches_36 : decode cX0_catches 36 = .ok (.getfield 29, 3) := by decide +kernel
theorem dX0_catches_39 : decode cX0_catches 39 = .ok (.getfield 39, 3) := by decide +kernel
theorem dX0_catches_42 : decode cX0_catches 42 = .ok (.getfield 66, 3) := by decide +kernel
theorem dX0_catches_45 : decode cX0_catches 45 = .ok (.goto 10, 3) := by decide +kernel
theorem dX0_catches_48 : decode cX0_catches 48 = .ok (.aload_n 0, 1) := by decide +kernel
theorem dX0_catches_49 : decode cX0_catches 49 = .ok (.getfield 29, 3) := by decide +kernel
theorem dX0_catches_52 : decode cX0_catches 52 = .ok (.getfield 69, 3) := by decide +kernel
theorem dX0_catches_55 : decode cX0_catches 55 = .ok (.astore_n 3, 1) := by decide +kernel
theorem dX0_catches_56 : decode cX0_catches 56 = .ok (.iconst 0, 1) := by decide +kernel
theorem dX0_catches_57 : decode cX0_catches 57 = .ok (.istore 4, 2) := by decide +kernel
theorem dX0_catches_59 : decode cX0_catches 59 = .ok (.iload 4, 2) := by decide +kernel
theorem dX0_catches_61 : decode cX0_catches 61 = .ok (.iload_n 2, 1) := by decide +kernel
theorem dX0_catches_62 : decode cX0_catches 62 = .ok (.if_icmp .ge 80, 3) := by decide +kernel
theorem dX0_catches_65 : decode cX0_catches 65 = .ok (.aload_n 3, 1) := by decide +kernel
theorem dX0_catches_66 : decode cX0_catches 66 = .ok (.iload 4, 2) := by decide +kernel
theorem dX0_catches_68 : decode cX0_catches 68 = .ok (.iconst 3, 1) := by decide +kernel
theorem dX0_catches_69 : decode cX0_catches 69 = .ok (.invokestatic 70, 3) := by decide +kernel
theorem dX0_catches_72 : decode cX0_catches 72 = .ok (.istore 5, 2) := by decide +kernel
theorem dX0_catches_74 : decode cX0_catches 74 = .ok (.aload_n 0, 1) := by decide +kernel
theorem dX0_catches_75 : decode cX0_catches 75 = .ok (.getfield 26, 3) := by decide +kernel
theorem dX0_catches_78 : decode cX0_catches 78 = .ok (.aload_n 3, 1) := by decide +kernel
theorem dX0_catches_79 : decode cX0_catches 79 = .ok (.iload 4, 2) := by decide +kernel
theorem dX0_catches_81 : decode cX0_catches 81 = .ok (.iconst 0, 1) := by decide +kernel
theorem dX0_catches_82 : decode cX0_catches 82 = .ok (.invokestatic 70, 3) := by decide +kernel
theorem dX0_catches_85 : decode cX0_catches 85 = .ok (.if_icmp .lt 51, 3) := by decide +kernel
theorem dX0_catches_88 : decode cX0_catches 88 = .ok (.aload_n 0, 1) := by decide +kernel
theorem dX0_catches_89 : decode cX0_catches 89 = .ok (.getfield 26, 3) := by decide +kernel
theorem dX0_catches_92 : decode cX0_catches 92 = .ok (.aload_n 3, 1) := by decide +kernel
theorem dX0_catches_93 : decode cX0_catches 93 = .ok (.iload 4, 2) := by decide +kernel
theorem dX0_catches_95 : decode cX0_catches 95 = .ok (.iconst 1, 1) := by decide +kernel
theorem dX0_catches_96 : decode cX0_catches 96 = .ok (.invokestatic 70, 3) := by decide +kernel
theorem dX0_catches_99 : decode cX0_catches 99 = .ok (.if_icmp .ge 37, 3) := by decide +kernel
theorem dX0_catches_102 : decode cX0_catches 102 = .ok (.iload 5, 2) := by decide +kernel
theorem dX0_catches_104 : decode cX0_catches 104 = .ok (.ifCond .eq 9, 3) := by decide +kernel
theorem dX0_catches_107 : decode cX0_catches 107 = .ok (.iload 5, 2) := by decide +kernel
theorem dX0_catches_109 : decode cX0_catches 109 = .ok (.iload_n 1, 1) := by decide +kernel
theorem dX0_catches_110 : decode cX0_catches 110 = .ok (.if_icmp .ne 26, 3) := by decide +kernel
theorem dX0_catches_113 : decode cX0_catches 113 = .ok (.aload_n 0, 1) := by decide +kernel
theorem dX0_catches_114 : decode cX0_catches 114 = .ok (.iconst 0, 1) := by decide +kernel
theorem dX0_catches_115 : decode cX0_catches 115 = .ok (.putfield 18, 3) := by decide +kernel
theorem dX0_catches_118 : decode cX0_catches 118 = .ok (.aload_n 0, 1) := by decide +kernel
theorem dX0_catches_119 : decode cX0_catches 119 = .ok (.iload_n 1, 1) := by decide +kernel
theorem dX0_catches_120 : decode cX0_catches 120 = .ok (.invokevirtual 74, 3) := by decide +kernel
theorem dX0_catches_123 : decode cX0_catches 123 = .ok (.aload_n 0, 1) := by decide +kernel
theorem dX0_catches_124 : decode cX0_catches 124 = .ok (.aload_n 3, 1) := by decide +kernel
theorem dX0_catches_125 : decode cX0_catches 125 = .ok (.iload 4, 2) := by decide +kernel
theorem dX0_catches_127 : decode cX0_catches 127 = .ok (.iconst 2, 1) := by decide +kernel
theorem dX0_catches_128 : decode cX0_catches 128 = .ok (.invokestatic 70, 3) := by decide +kernel
theorem dX0_catches_131 : decode cX0_catches 131 = .ok (.putfield 26, 3) := by decide +kernel
theorem dX0_catches_134 : decode cX0_catches 134 = .ok (.iconst 1, 1) := by decide +kernel
theorem dX0_catches_135 : decode cX0_catches 135 = .ok (.ireturn, 1) := by decide +kernel
theorem dX0_catches_136 : decode cX0_catches 136 = .ok (.iinc 4 1, 3) := by decide +kernel
theorem dX0_catches_139 : decode cX0_catches 139 = .ok (.goto (-80), 3) := by decide +kernel
theorem dX0_catches_142 : decode cX0_catches 142 = .ok (.iconst 0, 1) := by decide +kernel
theorem dX0_catches_143 : decode cX0_catches 143 = .ok (.ireturn, 1) := by decide +kernel
theorem dX1_init_0 : decode cX1_init 0 = .ok (.aload_n 0, 1) := by decide +kernel
theorem dX1_init_1 : decode cX1_init 1 = .ok (.invokespecial 3, 3) := by decide +kernel
theorem dX1_init_4 : decode cX1_init 4 = .ok (.aload_n 0, 1) := by decide +kernel
theorem dX1_init_5 : decode cX1_init 5 = .ok (.sipush 400, 3) := by decide +kernel
theorem dX1_init_8 : decode cX1_init 8 = .ok (.newarray .int, 2) := by decide +kernel
theorem dX1_init_10 : decode cX1_init 10 = .ok (.putfield 9, 3) := by decide +kernel
theorem dX1_init_13 : decode cX1_init 13 = .ok (.aload_n 0, 1) := by decide +kernel
theorem dX1_init_14 : decode cX1_init 14 = .ok (.sipush 400, 3) := by decide +kernel
theorem dX1_init_17 : decode cX1_init 17 = .ok (.newarray .boolean, 2) := by decide +kernel
theorem dX1_init_19 : decode cX1_init 19 = .ok (.putfield 15, 3) := by decide +kernel
theorem dX1_init_22 : decode cX1_init 22 = .ok (.aload_n 0, 1) := by decide +kernel
theorem dX1_init_23 : decode cX1_init 23 = .ok (.iconst 0, 1) := by decide +kernel
theorem dX1_init_24 : decode cX1_init 24 = .ok (.putfield 19, 3) := by decide +kernel
theorem dX1_init_27 : decode cX1_init 27 = .ok (.aload_n 0, 1) := by decide +kernel
theorem dX1_init_28 : decode cX1_init 28 = .ok (.iconst 0, 1) := by decide +kernel
theorem dX1_init_29 : decode cX1_init 29 = .ok (.putfield 23, 3) := by decide +kernel
theorem dX1_init_32 : decode cX1_init 32 = .ok (.aload_n 0, 1) := by decide +kernel
theorem dX1_init_33 : decode cX1_init 33 = .ok (.iconst 0, 1) := by decide +kernel
theorem dX1_init_34 : decode cX1_init 34 = .ok (.putfield 26, 3) := by decide +kernel
theorem dX1_init_37 : decode cX1_init 37 = .ok (.aload_n 0, 1) := by decide +kernel
theorem dX1_init_38 : decode cX1_init 38 = .ok (.iconst 0, 1) := by decide +kernel
theorem dX1_init_39 : decode cX1_init 39 = .ok (.putfield 29, 3) := by decide +kernel
theorem dX1_init_42 : decode cX1_init 42 = .ok (.return_, 1) := by decide +kernel
theorem dX1_accepts_0 : decode cX1_accepts 0 = .ok (.aload_n 1, 1) := by decide +kernel
theorem dX1_accepts_1 : decode cX1_accepts 1 = .ok (.getfield 33, 3) := by decide +kernel
theorem dX1_accepts_4 : decode cX1_accepts 4 = .ok (.iconst (-1), 1) := by decide +kernel
theorem dX1_accepts_5 : decode cX1_accepts 5 = .ok (.invokestatic 38, 3) := by decide +kernel
theorem dX1_accepts_8 : decode cX1_accepts 8 = .ok (.aload_n 1, 1) := by decide +kernel
theorem dX1_accepts_9 : decode cX1_accepts 9 = .ok (.getfield 44, 3) := by decide +kernel
theorem dX1_accepts_12 : decode cX1_accepts 12 = .ok (.iconst 0, 1) := by decide +kernel
theorem dX1_accepts_13 : decode cX1_accepts 13 = .ok (.invokestatic 38, 3) := by decide +kernel
theorem dX1_accepts_16 : decode cX1_accepts 16 = .ok (.iconst 0, 1) := by decide +kernel
theorem dX1_accepts_17 : decode cX1_accepts 17 = .ok (.istore_n 3, 1) := by decide +kernel
theorem dX1_accepts_18 : decode cX1_accepts 18 = .ok (.iload_n 3, 1) := by decide +kernel
theorem dX1_accepts_19 : decode cX1_accepts 19 = .ok (.sipush 400, 3) := by decide +kernel
theorem dX1_accepts_22 : decode cX1_accepts 22 = .ok (.if_icmp .ge 16, 3) := by decide +kernel
theorem dX1_accepts_25 : decode cX1_accepts 25 = .ok (.aload_n 0, 1) := by decide +kernel
theorem dX1_accepts_26 : decode cX1_accepts 26 = .ok (.getfield 15, 3) := by decide +kernel
theorem dX1_accepts_29 : decode cX1_accepts 29 = .ok (.iload_n 3, 1) := by decide +kernel
theorem dX1_accepts_30 : decode cX1_accepts 30 = .ok (.iconst 0, 1) := by decide +kernel
theorem dX1_accepts_31 : decode cX1_accepts 31 = .ok (.bastore, 1) := by decide +kernel
theorem dX1_accepts_32 : decode cX1_accepts 32 = .ok (.iinc 3 1, 3) := by decide +kernel
theorem dX1_accepts_35 : decode cX1_accepts 35 = .ok (.goto (-17), 3) := by decide +kernel
theorem dX1_accepts_38 : decode cX1_accepts 38 = .ok (.aload_n 0, 1) := by decide +kernel
theorem dX1_accepts_39 : decode cX1_accepts 39 = .ok (.iconst 0, 1) := by decide +kernel
theorem dX1_accepts_40 : decode cX1_accepts 40 = .ok (.putfield 19, 3) := by decide +kernel
theorem dX1_accepts_43 : decode cX1_accepts 43 = .ok (.aload_n 0, 1) := by decide +kernel
theorem dX1_accepts_44 : decode cX1_accepts 44 = .ok (.iconst 0, 1) := by decide +kernel
theorem dX1_accepts_45 : decode cX1_accepts 45 = .ok (.putfield 29, 3) := by decide +kernel
theorem dX1_accepts_48 : decode cX1_accepts 48 = .ok (.aload_n 0, 1) := by decide +kernel
theorem dX1_accepts_49 : decode cX1_accepts 49 = .ok (.aload_n 1, 1) := by decide +kernel
theorem dX1_accepts_50 : decode cX1_accepts 50 = .ok (.iconst 0, 1) := by decide +kernel
theorem dX1_accepts_51 : decode cX1_accepts 51 = .ok (.iconst 0, 1) := by decide +kernel
theorem dX1_accepts_52 : decode cX1_accepts 52 = .ok (.ldc 47, 2) := by decide +kernel
theorem dX1_accepts_54 : decode cX1_accepts 54 = .ok (.iconst 1, 1) := by decide +kernel
theorem dX1_accepts_55 : decode cX1_accepts 55 = .ok (.iconst 2, 1) := by decide +kernel
theorem dX1_accepts_56 : decode cX1_accepts 56 = .ok (.aload_n 1, 1) := by decide +kernel
theorem dX1_accepts_57 : decode cX1_accepts 57 = .ok (.getfield 48, 3) := by decide +kernel
theorem dX1_accepts_60 : decode cX1_accepts 60 = .ok (.imul, 1) := by decide +kernel
theorem dX1_accepts_61 : decode cX1_accepts 61 = .ok (.ishl, 1) := by decide +kernel
theorem dX1_accepts_62 : decode cX1_accepts 62 = .ok (.iconst 1, 1) := by decide +kernel
theorem dX1_accepts_63 : decode cX1_accepts 63 = .ok (.isub, 1) := by decide +kernel
theorem dX1_accepts_64 : decode cX1_accepts 64 = .ok (.iand, 1) := by decide +kernel
theorem dX1_accepts_65 : decode cX1_accepts 65 = .ok (.invokevirtual 51, 3) := by decide +kernel
theorem dX1_accepts_68 : decode cX1_accepts 68 = .ok (.iconst 0, 1) := by decide +kernel
theorem dX1_accepts_69 : decode cX1_accepts 69 = .ok (.istore_n 3, 1) := by decide +kernel
theorem dX1_accepts_70 : decode cX1_accepts 70 = .ok (.iload_n 3, 1) := by decide +kernel
theorem dX1_accepts_71 : decode cX1_accepts 71 = .ok (.sipush 5200, 3) := by decide +kernel
theorem dX1_accepts_74 : decode cX1_accepts 74 = .ok (.if_icmp .ge 60, 3) := by decide +kernel
theorem dX1_accepts_77 : decode cX1_accepts 77 = .ok (.aload_n 0, 1) := by decide +kernel
theorem dX1_accepts_78 : decode cX1_accepts 78 = .ok (.getfield 19, 3) := by decide +kernel
theorem dX1_accepts_81 : decode cX1_accepts 81 = .ok (.ifCond .le 53, 3) := by decide +kernel
theorem dX1_accepts_84 : decode cX1_accepts 84 = .ok (.aload_n 0, 1) := by decide +kernel
theorem dX1_accepts_85 : decode cX1_accepts 85 = .ok (.getfield 29, 3) := by decide +kernel
theorem dX1_accepts_88 : decode cX1_accepts 88 = .ok (.ifCond .ne 46, 3) := by decide +kernel
theorem dX1_accepts_91 : decode cX1_accepts 91 = .ok (.aload_n 0, 1) := by decide +kernel
theorem dX1_accepts_92 : decode cX1_accepts 92 = .ok (.dup, 1) := by decide +kernel
theorem dX1_accepts_93 : decode cX1_accepts 93 = .ok (.getfield 19, 3) := by decide +kernel
theorem dX1_accepts_96 : decode cX1_accepts 96 = .ok (.iconst 1, 1) := by decide +kernel
theorem dX1_accepts_97 : decode cX1_accepts 97 = .ok (.isub, 1) := by decide +kernel
theorem dX1_accepts_98 : decode cX1_accepts 98 = .ok (.putfield 19, 3) := by decide +kernel
theorem dX1_accepts_101 : decode cX1_accepts 101 = .ok (.aload_n 0, 1) := by decide +kernel
theorem dX1_accepts_102 : decode cX1_accepts 102 = .ok (.getfield 9, 3) := by decide +kernel
theorem dX1_accepts_105 : decode cX1_accepts 105 = .ok (.aload_n 0, 1) := by decide +kernel
theorem dX1_accepts_106 : decode cX1_accepts 106 = .ok (.getfield 19, 3) := by decide +kernel
theorem dX1_accepts_109 : decode cX1_accepts 109 = .ok (.iaload, 1) := by decide +kernel
theorem dX1_accepts_110 : decode cX1_accepts 110 = .ok (.istore 4, 2) := by decide +kernel
theorem dX1_accepts_112 : decode cX1_accepts 112 = .ok (.aload_n 0, 1) := by decide +kernel
theorem dX1_accepts_113 : decode cX1_accepts 113 = .ok (.getfield 15, 3) := by decide +kernel
theorem dX1_accepts_116 : decode cX1_accepts 116 = .ok (.iload 4, 2) := by decide +kernel
theorem dX1_accepts_118 : decode cX1_accepts 118 = .ok (.iconst 0, 1) := by decide +kernel
theorem dX1_accepts_119 : decode cX1_accepts 119 = .ok (.bastore, 1) := by decide +kernel
theorem dX1_accepts_120 : decode cX1_accepts 120 = .ok (.aload_n 0, 1) := by decide +kernel
theorem dX1_accepts_121 : decode cX1_accepts 121 = .ok (.aload_n 1, 1) := by decide +kernel
theorem dX1_accepts_122 : decode cX1_accepts 122 = .ok (.iload 4, 2) := by decide +kernel
theorem dX1_accepts_124 : decode cX1_accepts 124 = .ok (.aload_n 2, 1) := by decide +kernel
theorem dX1_accepts_125 : decode cX1_accepts 125 = .ok (.invokevirtual 55, 3) := by decide +kernel
theorem dX1_accepts_128 : decode cX1_accepts 128 = .ok (.iinc 3 1, 3) := by decide +kernel
theorem dX1_accepts_131 : decode cX1_accepts 131 = .ok (.goto (-61), 3) := by decide +kernel
theorem dX1_accepts_134 : decode cX1_accepts 134 = .ok (.aload_n 0, 1) := by decide +kernel
theorem dX1_accepts_135 : decode cX1_accepts 135 = .ok (.getfield 29, 3) := by decide +kernel
theorem dX1_accepts_138 : decode cX1_accepts 138 = .ok (.ifCond .ne 7, 3) := by decide +kernel
theorem dX1_accepts_141 : decode cX1_accepts 141 = .ok (.iconst 1, 1) := by decide +kernel
theorem dX1_accepts_142 : decode cX1_accepts 142 = .ok (.goto 4, 3) := by decide +kernel
theorem dX1_accepts_145 : decode cX1_accepts 145 = .ok (.iconst 0, 1) := by decide +kernel
theorem dX1_accepts_146 : decode cX1_accepts 146 = .ok (.ireturn, 1) := by decide +kernel
theorem dX1_goFrom_0 : decode cX1_goFrom 0 = .ok (.aload_n 0, 1) := by decide +kernel
theorem dX1_goFrom_1 : decode cX1_goFrom 1 = .ok (.aload_n 1, 1) := by decide +kernel
theorem dX1_goFrom_2 : decode cX1_goFrom 2 = .ok (.getfield 33, 3) := by decide +kernel
theorem dX1_goFrom_5 : decode cX1_goFrom 5 = .ok (.iload_n 2, 1) := by decide +kernel
theorem dX1_goFrom_6 : decode cX1_goFrom 6 = .ok (.iaload, 1) := by decide +kernel
theorem dX1_goFrom_7 : decode cX1_goFrom 7 = .ok (.putfield 23, 3) := by decide +kernel
theorem dX1_goFrom_10 : decode cX1_goFrom 10 = .ok (.aload_n 0, 1) := by decide +kernel
theorem dX1_goFrom_11 : decode cX1_goFrom 11 = .ok (.aload_n 1, 1) := by decide +kernel
theorem dX1_goFrom_12 : decode cX1_goFrom 12 = .ok (.getfield 44, 3) := by decide +kernel
theorem dX1_goFrom_15 : decode cX1_goFrom 15 = .ok (.iload_n 2, 1) := by decide +kernel
theorem dX1_goFrom_16 : decode cX1_goFrom 16 = .ok (.iaload, 1) := by decide +kernel
theorem dX1_goFrom_17 : decode cX1_goFrom 17 = .ok (.putfield 26, 3) := by decide +kernel
theorem dX1_goFrom_20 : decode cX1_goFrom 20 = .ok (.iconst 0, 1) := by decide +kernel
theorem dX1_goFrom_21 : decode cX1_goFrom 21 = .ok (.istore 4, 2) := by decide +kernel
theorem dX1_goFrom_23 : decode cX1_goFrom 23 = .ok (.iload 4, 2) := by decide +kernel
theorem dX1_goFrom_25 : decode cX1_goFrom 25 = .ok (.aload_n 1, 1) := by decide +kernel
theorem dX1_goFrom_26 : decode cX1_goFrom 26 = .ok (.getfield 59, 3) := by decide +kernel
theorem dX1_goFrom_29 : decode cX1_goFrom 29 = .ok (.if_icmp .ge 58, 3) := by decide +kernel
theorem dX1_goFrom_32 : decode cX1_goFrom 32 = .ok (.iload_n 2, 1) := by decide +kernel
theorem dX1_goFrom_33 : decode cX1_goFrom 33 = .ok (.aload_n 1, 1) := by decide +kernel
theorem dX1_goFrom_34 : decode cX1_goFrom 34 = .ok (.getfield 62, 3) := by decide +kernel
theorem dX1_goFrom_37 : decode cX1_goFrom 37 = .ok (.iload 4, 2) := by decide +kernel
theorem dX1_goFrom_39 : decode cX1_goFrom 39 = .ok (.iconst 0, 1) := by decide +kernel
theorem dX1_goFrom_40 : decode cX1_goFrom 40 = .ok (.invokestatic 65, 3) := by decide +kernel
theorem dX1_goFrom_43 : decode cX1_goFrom 43 = .ok (.if_icmp .lt 38, 3) := by decide +kernel
theorem dX1_goFrom_46 : decode cX1_goFrom 46 = .ok (.iload_n 2, 1) := by decide +kernel
theorem dX1_goFrom_47 : decode cX1_goFrom 47 = .ok (.aload_n 1, 1) := by decide +kernel
theorem dX1_goFrom_48 : decode cX1_goFrom 48 = .ok (.getfield 62, 3) := by decide +kernel
theorem dX1_goFrom_51 : decode cX1_goFrom 51 = .ok (.iload 4, 2) := by decide +kernel
theorem dX1_goFrom_53 : decode cX1_goFrom 53 = .ok (.iconst 1, 1) := by decide +kernel
theorem dX1_goFrom_54 : decode cX1_goFrom 54 = .ok (.invokestatic 65, 3) := by decide +kernel
theorem dX1_goFrom_57 : decode cX1_goFrom 57 = .ok (.if_icmp .ge 24, 3) := by decide +kernel
theorem dX1_goFrom_60 : decode cX1_goFrom 60 = .ok (.aload_n 0, 1) := by decide +kernel
theorem dX1_goFrom_61 : decode cX1_goFrom 61 = .ok (.aload_n 1, 1) := by decide +kernel
theorem dX1_goFrom_62 : decode cX1_goFrom 62 = .ok (.aload_n 1, 1) := by decide +kernel
theorem dX1_goFrom_63 : decode cX1_goFrom 63 = .ok (.getfield 62, 3) := by decide +kernel
theorem dX1_goFrom_66 : decode cX1_goFrom 66 = .ok (.iload 4, 2) := by decide +kernel
theorem dX1_goFrom_68 : decode cX1_goFrom 68 = .ok (.iconst 2, 1) := by decide +kernel
theorem dX1_goFrom_69 : decode cX1_goFrom 69 = .ok (.invokestatic 65, 3) := by decide +kernel
theorem dX1_goFrom_72 : decode cX1_goFrom 72 = .ok (.ldc 69, 2) := by decide +kernel
theorem dX1_goFrom_74 : decode cX1_goFrom 74 = .ok (.aload_n 0, 1) := by decide +kernel
theorem dX1_goFrom_75 : decode cX1_goFrom 75 = .ok (.getfield 26, 3) := by decide +kernel
theorem dX1_goFrom_78 : decode cX1_goFrom 78 = .ok (.invokevirtual 51, 3) := by decide +kernel
theorem dX1_goFrom_81 : decode cX1_goFrom 81 = .ok (.iinc 4 1, 3) := by decide +kernel
theorem dX1_goFrom_84 : decode cX1_goFrom 84 = .ok (.goto (-61), 3) := by decide +kernel
theorem dX1_goFrom_87 : decode cX1_goFrom 87 = .ok (.aload_n 1, 1) := by decide +kernel
theorem dX1_goFrom_88 : decode cX1_goFrom 88 = .ok (.getfield 70, 3) := by decide +kernel
theorem dX1_goFrom_91 : decode cX1_goFrom 91 = .ok (.iload_n 2, 1) := by decide +kernel
theorem dX1_goFrom_92 : decode cX1_goFrom 92 = .ok (.iaload, 1) := by decide +kernel
theorem dX1_goFrom_93 : decode cX1_goFrom 93 = .ok (.istore 4, 2) := by decide +kernel
theorem dX1_goFrom_95 : decode cX1_goFrom 95 = .ok (.aload_n 0, 1) := by decide +kernel
theorem dX1_goFrom_96 : decode cX1_goFrom 96 = .ok (.iload 4, 2) := by decide +kernel
theorem dX1_goFrom_98 : decode cX1_goFrom 98 = .ok (.invokestatic 73, 3) := by decide +kernel
theorem dX1_goFrom_101 : decode cX1_goFrom 101 = .ok (.aload_n 1, 1) := by decide +kernel
theorem dX1_goFrom_102 : decode cX1_goFrom 102 = .ok (.getfield 70, 3) := by decide +kernel
theorem dX1_goFrom_105 : decode cX1_goFrom 105 = .ok (.iload_n 2, 1) := by decide +kernel
theorem dX1_goFrom_106 : decode cX1_goFrom 106 = .ok (.iconst 1, 1) := by decide +kernel
theorem dX1_goFrom_107 : decode cX1_goFrom 107 = .ok (.iadd, 1) := by decide +kernel
theorem dX1_goFrom_108 : decode cX1_goFrom 108 = .ok (.invokestatic 77, 3) := by decide +kernel
theorem dX1_goFrom_111 : decode cX1_goFrom 111 = .ok (.aload_n 3, 1) := by decide +kernel
theorem dX1_goFrom_112 : decode cX1_goFrom 112 = .ok (.invokevirtual 81, 3) := by decide +kernel
theorem dX1_goFrom_115 : decode cX1_goFrom 115 = .ok (.iload 4, 2) := by decide +kernel
theorem dX1_goFrom_117 : decode cX1_goFrom 117 = .ok (.invokestatic 85, 3) := by decide +kernel
theorem dX1_goFrom_120 : decode cX1_goFrom 120 = .ok (.ifCond .eq 24, 3) := by decide +kernel
theorem dX1_goFrom_123 : decode cX1_goFrom 123 = .ok (.aload_n 0, 1) := by decide +kernel
theorem dX1_goFrom_124 : decode cX1_goFrom 124 = .ok (.aload_n 1, 1) := by decide +kernel
theorem dX1_goFrom_125 : decode cX1_goFrom 125 = .ok (.iload_n 2, 1) := by decide +kernel
theorem dX1_goFrom_126 : decode cX1_goFrom 126 = .ok (.aload_n 1, 1) := by decide +kernel
theorem dX1_goFrom_127 : decode cX1_goFrom 127 = .ok (.getfield 89, 3) := by decide +kernel
theorem dX1_goFrom_130 : decode cX1_goFrom 130 = .ok (.iload_n 2, 1) := by decide +kernel
theorem dX1_goFrom_131 : decode cX1_goFrom 131 = .ok (.iaload, 1) := by decide +kernel
theorem dX1_goFrom_132 : decode cX1_goFrom 132 = .ok (.iadd, 1) := by decide +kernel
theorem dX1_goFrom_133 : decode cX1_goFrom 133 = .ok (.aload_n 0, 1) := by decide +kernel
theorem dX1_goFrom_134 : decode cX1_goFrom 134 = .ok (.getfield 23, 3) := by decide +kernel
theorem dX1_goFrom_137 : decode cX1_goFrom 137 = .ok (.aload_n 0, 1) := by decide +kernel
theorem dX1_goFrom_138 : decode cX1_goFrom 138 = .ok (.getfield 26, 3) := by decide +kernel
theorem dX1_goFrom_141 : decode cX1_goFrom 141 = .ok (.invokevirtual 51, 3) := by decide +kernel
theorem dX1_goFrom_144 : decode cX1_goFrom 144 = .ok (.aload_n 1, 1) := by decide +kernel
theorem dX1_goFrom_145 : decode cX1_goFrom 145 = .ok (.getfield 70, 3) := by decide +kernel
theorem dX1_goFrom_148 : decode cX1_goFrom 148 = .ok (.iload_n 2, 1) := by decide +kernel
theorem dX1_goFrom_149 : decode cX1_goFrom 149 = .ok (.invokestatic 92, 3) := by decide +kernel
theorem dX1_goFrom_152 : decode cX1_goFrom 152 = .ok (.istore 5, 2) := by decide +kernel
theorem dX1_goFrom_154 : decode cX1_goFrom 154 = .ok (.iconst 0, 1) := by decide +kernel
theorem dX1_goFrom_155 : decode cX1_goFrom 155 = .ok (.istore 6, 2) := by decide +kernel
theorem dX1_goFrom_157 : decode cX1_goFrom 157 = .ok (.iload 6, 2) := by decide +kernel
theorem dX1_goFrom_159 : decode cX1_goFrom 159 = .ok (.iload 5, 2) := by decide +kernel
theorem dX1_goFrom_161 : decode cX1_goFrom 161 = .ok (.if_icmp .ge 32, 3) := by decide +kernel
theorem dX1_goFrom_164 : decode cX1_goFrom 164 = .ok (.aload_n 0, 1) := by decide +kernel
theorem dX1_goFrom_165 : decode cX1_goFrom 165 = .ok (.aload_n 1, 1) := by decide +kernel
theorem dX1_goFrom_166 : decode cX1_goFrom 166 = .ok (.aload_n 1, 1) := by decide +kernel
theorem dX1_goFrom_167 : decode cX1_goFrom 167 = .ok (.getfield 70, 3) := by decide +kernel
theorem dX1_goFrom_170 : decode cX1_goFrom 170 = .ok (.iload_n 2, 1) := by decide +kernel
theorem dX1_goFrom_171 : decode cX1_goFrom 171 = .ok (.iload 6, 2) := by decide +kernel
theorem dX1_goFrom_173 : decode cX1_goFrom 173 = .ok (.invokestatic 95, 3) := by decide +kernel
theorem dX1_goFrom_176 : decode cX1_goFrom 176 = .ok (.aload_n 0, 1) := by decide +kernel
theorem dX1_goFrom_177 : decode cX1_goFrom 177 = .ok (.getfield 23, 3) := by decide +kernel
theorem dX1_goFrom_180 : decode cX1_goFrom 180 = .ok (.aload_n 0, 1) := by decide +kernel
theorem dX1_goFrom_181 : decode cX1_goFrom 181 = .ok (.getfield 26, 3) := by decide +kernel
theorem dX1_goFrom_184 : decode cX1_goFrom 184 = .ok (.invokevirtual 51, 3) := by decide +kernel
theorem dX1_goFrom_187 : decode cX1_goFrom 187 = .ok (.iinc 6 1, 3) := by decide +kernel
theorem dX1_goFrom_190 : decode cX1_goFrom 190 = .ok (.goto (-33), 3) := by decide +kernel
theorem dX1_goFrom_193 : decode cX1_goFrom 193 = .ok (.return_, 1) := by decide +kernel
theorem dX1_comeTo_0 : decode cX1_comeTo 0 = .ok (.aload_n 1, 1) := by decide +kernel
theorem dX1_comeTo_1 : decode cX1_comeTo 1 = .ok (.iload_n 2, 1) := by decide +kernel
theorem dX1_comeTo_2 : decode cX1_comeTo 2 = .ok (.invokevirtual 98, 3) := by decide +kernel
theorem dX1_comeTo_5 : decode cX1_comeTo 5 = .ok (.ifCond .ne 9, 3) := by decide +kernel
theorem dX1_comeTo_8 : decode cX1_comeTo 8 = .ok (.aload_n 0, 1) := by decide +kernel
theorem dX1_comeTo_9 : decode cX1_comeTo 9 = .ok (.iconst 1, 1) := by decide +kernel
theorem dX1_comeTo_10 : decode cX1_comeTo 10 = .ok (.putfield 29, 3) := by decide +kernel
theorem dX1_comeTo_13 : decode cX1_comeTo 13 = .ok (.return_, 1) := by decide +kernel
theorem dX1_comeTo_14 : decode cX1_comeTo 14 = .ok (.aload_n 1, 1) := by decide +kernel
theorem dX1_comeTo_15 : decode cX1_comeTo 15 = .ok (.getfield 33, 3) := by decide +kernel
theorem dX1_comeTo_18 : decode cX1_comeTo 18 = .ok (.iload_n 2, 1) := by decide +kernel
theorem dX1_comeTo_19 : decode cX1_comeTo 19 = .ok (.iaload, 1) := by decide +kernel
theorem dX1_comeTo_20 : decode cX1_comeTo 20 = .ok (.iconst (-1), 1) := by decide +kernel
theorem dX1_comeTo_21 : decode cX1_comeTo 21 = .ok (.if_icmp .ne 24, 3) := by decide +kernel
theorem dX1_comeTo_24 : decode cX1_comeTo 24 = .ok (.aload_n 1, 1) := by decide +kernel
theorem dX1_comeTo_25 : decode cX1_comeTo 25 = .ok (.getfield 33, 3) := by decide +kernel
theorem dX1_comeTo_28 : decode cX1_comeTo 28 = .ok (.iload_n 2, 1) := by decide +kernel
theorem dX1_comeTo_29 : decode cX1_comeTo 29 = .ok (.iload_n 3, 1) := by decide +kernel
theorem dX1_comeTo_30 : decode cX1_comeTo 30 = .ok (.iastore, 1) := by decide +kernel
theorem dX1_comeTo_31 : decode cX1_comeTo 31 = .ok (.aload_n 1, 1) := by decide +kernel
theorem dX1_comeTo_32 : decode cX1_comeTo 32 = .ok (.getfield 44, 3) := by decide +kernel
theorem dX1_comeTo_35 : decode cX1_comeTo 35 = .ok (.iload_n 2, 1) := by decide +kernel
theorem dX1_comeTo_36 : decode cX1_comeTo 36 = .ok (.iload 4, 2) := by decide +kernel
theorem dX1_comeTo_38 : decode cX1_comeTo 38 = .ok (.iastore, 1) := by decide +kernel
theorem dX1_comeTo_39 : decode cX1_comeTo 39 = .ok (.aload_n 0, 1) := by decide +kernel
theorem dX1_comeTo_40 : decode cX1_comeTo 40 = .ok (.iload_n 2, 1) := by decide +kernel
theorem dX1_comeTo_41 : decode cX1_comeTo 41 = .ok (.invokevirtual 101, 3) := by decide +kernel
theorem dX1_comeTo_44 : decode cX1_comeTo 44 = .ok (.return_, 1) := by decide +kernel
theorem dX1_comeTo_45 : decode cX1_comeTo 45 = .ok (.aload_n 1, 1) := by decide +kernel
theorem dX1_comeTo_46 : decode cX1_comeTo 46 = .ok (.getfield 33, 3) := by decide +kernel
theorem dX1_comeTo_49 : decode cX1_comeTo 49 = .ok (.iload_n 2, 1) := by decide +kernel
theorem dX1_comeTo_50 : decode cX1_comeTo 50 = .ok (.iaload, 1) := by decide +kernel
theorem dX1_comeTo_51 : decode cX1_comeTo 51 = .ok (.iload_n 3, 1) := by decide +kernel
theorem dX1_comeTo_52 : decode cX1_comeTo 52 = .ok (.if_icmp .eq 9, 3) := by decide +kernel
theorem dX1_comeTo_55 : decode cX1_comeTo 55 = .ok (.aload_n 0, 1) := by decide +kernel
theorem dX1_comeTo_56 : decode cX1_comeTo 56 = .ok (.iconst 1, 1) := by decide +kernel
theorem dX1_comeTo_57 : decode cX1_comeTo 57 = .ok (.putfield 29, 3) := by decide +kernel
theorem dX1_comeTo_60 : decode cX1_comeTo 60 = .ok (.return_, 1) := by decide +kernel
theorem dX1_comeTo_61 : decode cX1_comeTo 61 = .ok (.aload_n 1, 1) := by decide +kernel
theorem dX1_comeTo_62 : decode cX1_comeTo 62 = .ok (.getfield 44, 3) := by decide +kernel
theorem dX1_comeTo_65 : decode cX1_comeTo 65 = .ok (.iload_n 2, 1) := by decide +kernel
theorem dX1_comeTo_66 : decode cX1_comeTo 66 = .ok (.iaload, 1) := by decide +kernel
theorem dX1_comeTo_67 : decode cX1_comeTo 67 = .ok (.iload 4, 2) := by decide +kernel
theorem dX1_comeTo_69 : decode cX1_comeTo 69 = .ok (.ixor, 1) := by decide +kernel
theorem dX1_comeTo_70 : decode cX1_comeTo 70 = .ok (.istore 5, 2) := by decide +kernel
theorem dX1_comeTo_72 : decode cX1_comeTo 72 = .ok (.iload 5, 2) := by decide +kernel
theorem dX1_comeTo_74 : decode cX1_comeTo 74 = .ok (.iload 5, 2) := by decide +kernel
theorem dX1_comeTo_76 : decode cX1_comeTo 76 = .ok (.iconst 1, 1) := by decide +kernel
theorem dX1_comeTo_77 : decode cX1_comeTo 77 = .ok (.ishr, 1) := by decide +kernel
theorem dX1_comeTo_78 : decode cX1_comeTo 78 = .ok (.ior, 1) := by decide +kernel
theorem dX1_comeTo_79 : decode cX1_comeTo 79 = .ok (.ldc 47, 2) := by decide +kernel
theorem dX1_comeTo_81 : decode cX1_comeTo 81 = .ok (.iand, 1) := by decide +kernel
theorem dX1_comeTo_82 : decode cX1_comeTo 82 = .ok (.istore 6, 2) := by decide +kernel
theorem dX1_comeTo_84 : decode cX1_comeTo 84 = .ok (.aload_n 1, 1) := by decide +kernel
theorem dX1_comeTo_85 : decode cX1_comeTo 85 = .ok (.getfield 44, 3) := by decide +kernel
theorem dX1_comeTo_88 : decode cX1_comeTo 88 = .ok (.iload_n 2, 1) := by decide +kernel
theorem dX1_comeTo_89 : decode cX1_comeTo 89 = .ok (.iaload, 1) := by decide +kernel
theorem dX1_comeTo_90 : decode cX1_comeTo 90 = .ok (.iload 6, 2) := by decide +kernel
theorem dX1_comeTo_92 : decode cX1_comeTo 92 = .ok (.iload 6, 2) := by decide +kernel
theorem dX1_comeTo_94 : decode cX1_comeTo 94 = .ok (.iconst 1, 1) := by decide +kernel
theorem dX1_comeTo_95 : decode cX1_comeTo 95 = .ok (.ishl, 1) := by decide +kernel
theorem dX1_comeTo_96 : decode cX1_comeTo 96 = .ok (.ior, 1) := by decide +kernel
theorem dX1_comeTo_97 : decode cX1_comeTo 97 = .ok (.iconst (-1), 1) := by decide +kernel
theorem dX1_comeTo_98 : decode cX1_comeTo 98 = .ok (.ixor, 1) := by decide +kernel
theorem dX1_comeTo_99 : decode cX1_comeTo 99 = .ok (.iand, 1) := by decide +kernel
theorem dX1_comeTo_100 : decode cX1_comeTo 100 = .ok (.istore 7, 2) := by decide +kernel
theorem dX1_comeTo_102 : decode cX1_comeTo 102 = .ok (.iload 7, 2) := by decide +kernel
theorem dX1_comeTo_104 : decode cX1_comeTo 104 = .ok (.aload_n 1, 1) := by decide +kernel
theorem dX1_comeTo_105 : decode cX1_comeTo 105 = .ok (.getfield 44, 3) := by decide +kernel
theorem dX1_comeTo_108 : decode cX1_comeTo 108 = .ok (.iload_n 2, 1) := by decide +kernel
theorem dX1_comeTo_109 : decode cX1_comeTo 109 = .ok (.iaload, 1) := by decide +kernel
theorem dX1_comeTo_110 : decode cX1_comeTo 110 = .ok (.if_icmp .eq 16, 3) := by decide +kernel
theorem dX1_comeTo_113 : decode cX1_comeTo 113 = .ok (.aload_n 1, 1) := by decide +kernel
theorem dX1_comeTo_114 : decode cX1_comeTo 114 = .ok (.getfield 44, 3) := by decide +kernel
theorem dX1_comeTo_117 : decode cX1_comeTo 117 = .ok (.iload_n 2, 1) := by decide +kernel
theorem dX1_comeTo_118 : decode cX1_comeTo 118 = .ok (.iload 7, 2) := by decide +kernel
theorem dX1_comeTo_120 : decode cX1_comeTo 120 = .ok (.iastore, 1) := by decide +kernel
theorem dX1_comeTo_121 : decode cX1_comeTo 121 = .ok (.aload_n 0, 1) := by decide +kernel
theorem dX1_comeTo_122 : decode cX1_comeTo 122 = .ok (.iload_n 2, 1) := by decide +kernel
theorem dX1_comeTo_123 : decode cX1_comeTo 123 = .ok (.invokevirtual 101, 3) := by decide +kernel
theorem dX1_comeTo_126 : decode cX1_comeTo 126 = .ok (.return_, 1) := by decide +kernel
theorem dX1_putInLine_0 : decode cX1_putInLine 0 = .ok (.aload_n 0, 1) := by decide +kernel
theorem dX1_putInLine_1 : decode cX1_putInLine 1 = .ok (.getfield 15, 3) := by decide +kernel
theorem dX1_putInLine_4 : decode cX1_putInLine 4 = .ok (.iload_n 1, 1) := by decide +kernel
theorem dX1_putInLine_5 : decode cX1_putInLine 5 = .ok (.baload, 1) := by decide +kernel
theorem dX1_putInLine_6 : decode cX1_putInLine 6 = .ok (.ifCond .ne 47, 3) := by decide +kernel
theorem dX1_putInLine_9 : decode cX1_putInLine 9 = .ok (.aload_n 0, 1) := by decide +kernel
theorem dX1_putInLine_10 : decode cX1_putInLine 10 = .ok (.getfield 19, 3) := by decide +kernel
theorem dX1_putInLine_13 : decode cX1_putInLine 13 = .ok (.ifCond .lt 40, 3) := by decide +kernel
theorem dX1_putInLine_16 : decode cX1_putInLine 16 = .ok (.aload_n 0, 1) := by decide +kernel
theorem dX1_putInLine_17 : decode cX1_putInLine 17 = .ok (.getfield 19, 3) := by decide +kernel
theorem dX1_putInLine_20 : decode cX1_putInLine 20 = .ok (.sipush 400, 3) := by decide +kernel
theorem dX1_putInLine_23 : decode cX1_putInLine 23 = .ok (.if_icmp .ge 30, 3) := by decide +kernel
theorem dX1_putInLine_26 : decode cX1_putInLine 26 = .ok (.aload_n 0, 1) := by decide +kernel
theorem dX1_putInLine_27 : decode cX1_putInLine 27 = .ok (.getfield 15, 3) := by decide +kernel
theorem dX1_putInLine_30 : decode cX1_putInLine 30 = .ok (.iload_n 1, 1) := by decide +kernel
theorem dX1_putInLine_31 : decode cX1_putInLine 31 = .ok (.iconst 1, 1) := by decide +kernel
theorem dX1_putInLine_32 : decode cX1_putInLine 32 = .ok (.bastore, 1) := by decide +kernel
theorem dX1_putInLine_33 : decode cX1_putInLine 33 = .ok (.aload_n 0, 1) := by decide +kernel
theorem dX1_putInLine_34 : decode cX1_putInLine 34 = .ok (.getfield 9, 3) := by decide +kernel
theorem dX1_putInLine_37 : decode cX1_putInLine 37 = .ok (.aload_n 0, 1) := by decide +kernel
theorem dX1_putInLine_38 : decode cX1_putInLine 38 = .ok (.getfield 19, 3) := by decide +kernel
theorem dX1_putInLine_41 : decode cX1_putInLine 41 = .ok (.iload_n 1, 1) := by decide +kernel
theorem dX1_putInLine_42 : decode cX1_putInLine 42 = .ok (.iastore, 1) := by decide +kernel
theorem dX1_putInLine_43 : decode cX1_putInLine 43 = .ok (.aload_n 0, 1) := by decide +kernel
theorem dX1_putInLine_44 : decode cX1_putInLine 44 = .ok (.dup, 1) := by decide +kernel
theorem dX1_putInLine_45 : decode cX1_putInLine 45 = .ok (.getfield 19, 3) := by decide +kernel
theorem dX1_putInLine_48 : decode cX1_putInLine 48 = .ok (.iconst 1, 1) := by decide +kernel
theorem dX1_putInLine_49 : decode cX1_putInLine 49 = .ok (.iadd, 1) := by decide +kernel
theorem dX1_putInLine_50 : decode cX1_putInLine 50 = .ok (.putfield 19, 3) := by decide +kernel
theorem dX1_putInLine_53 : decode cX1_putInLine 53 = .ok (.return_, 1) := by decide +kernel
theorem dX1_doOp_0 : decode cX1_doOp 0 = .ok (.iload_n 1, 1) := by decide +kernel
theorem dX1_doOp_1 : decode cX1_doOp 1 = .ok (.lookupswitch 149 #[(3, 67), (4, 75), (5, 87), (6, 113), (7, 113), (8, 113), (40, 121)], 67) := by decide +kernel
theorem dX1_doOp_68 : decode cX1_doOp 68 = .ok (.aload_n 0, 1) := by decide +kernel
theorem dX1_doOp_69 : decode cX1_doOp 69 = .ok (.iload_n 2, 1) := by decide +kernel
theorem dX1_doOp_70 : decode cX1_doOp 70 = .ok (.invokevirtual 105, 3) := by decide +kernel
theorem dX1_doOp_73 : decode cX1_doOp 73 = .ok (.goto 82, 3) := by decide +kernel
theorem dX1_doOp_76 : decode cX1_doOp 76 = .ok (.aload_n 0, 1) := by decide +kernel
theorem dX1_doOp_77 : decode cX1_doOp 77 = .ok (.iload_n 2, 1) := by decide +kernel
theorem dX1_doOp_78 : decode cX1_doOp 78 = .ok (.aload_n 0, 1) := by decide +kernel
theorem dX1_doOp_79 : decode cX1_doOp 79 = .ok (.invokevirtual 108, 3) := by decide +kernel
theorem dX1_doOp_82 : decode cX1_doOp 82 = .ok (.invokevirtual 112, 3) := by decide +kernel
theorem dX1_doOp_85 : decode cX1_doOp 85 = .ok (.goto 70, 3) := by decide +kernel
theorem dX1_doOp_88 : decode cX1_doOp 88 = .ok (.aload_n 0, 1) := by decide +kernel
theorem dX1_doOp_89 : decode cX1_doOp 89 = .ok (.dup, 1) := by decide +kernel
theorem dX1_doOp_90 : decode cX1_doOp 90 = .ok (.getfield 29, 3) := by decide +kernel
theorem dX1_doOp_93 : decode cX1_doOp 93 = .ok (.aload_n 0, 1) := by decide +kernel
theorem dX1_doOp_94 : decode cX1_doOp 94 = .ok (.iload_n 2, 1) := by decide +kernel
theorem dX1_doOp_95 : decode cX1_doOp 95 = .ok (.invokevirtual 116, 3) := by decide +kernel
theorem dX1_doOp_98 : decode cX1_doOp 98 = .ok (.iconst 1, 1) := by decide +kernel
theorem dX1_doOp_99 : decode cX1_doOp 99 = .ok (.if_icmp .eq 7, 3) := by decide +kernel
theorem dX1_doOp_102 : decode cX1_doOp 102 = .ok (.iconst 1, 1) := by decide +kernel
theorem dX1_doOp_103 : decode cX1_doOp 103 = .ok (.goto 4, 3) := by decide +kernel
theorem dX1_doOp_106 : decode cX1_doOp 106 = .ok (.iconst 0, 1) := by decide +kernel
theorem dX1_doOp_107 : decode cX1_doOp 107 = .ok (.ior, 1) := by decide +kernel
theorem dX1_doOp_108 : decode cX1_doOp 108 = .ok (.putfield 29, 3) := by decide +kernel
theorem dX1_doOp_111 : decode cX1_doOp 111 = .ok (.goto 44, 3) := by decide +kernel
theorem dX1_doOp_114 : decode cX1_doOp 114 = .ok (.aload_n 0, 1) := by decide +kernel
theorem dX1_doOp_115 : decode cX1_doOp 115 = .ok (.iload_n 1, 1) := by decide +kernel
theorem dX1_doOp_116 : decode cX1_doOp 116 = .ok (.invokevirtual 119, 3) := by decide +kernel
theorem dX1_doOp_119 : decode cX1_doOp 119 = .ok (.goto 36, 3) := by decide +kernel
theorem dX1_doOp_122 : decode cX1_doOp 122 = .ok (.aload_n 0, 1) := by decide +kernel
theorem dX1_doOp_123 : decode cX1_doOp 123 = .ok (.iload_n 2, 1) := by decide +kernel
theorem dX1_doOp_124 : decode cX1_doOp 124 = .ok (.aload_n 3, 1) := by decide +kernel
theorem dX1_doOp_125 : decode cX1_doOp 125 = .ok (.arraylength, 1) := by decide +kernel
theorem dX1_doOp_126 : decode cX1_doOp 126 = .ok (.if_icmp .ge 12, 3) := by decide +kernel
theorem dX1_doOp_129 : decode cX1_doOp 129 = .ok (.aload_n 3, 1) := by decide +kernel
theorem dX1_doOp_130 : decode cX1_doOp 130 = .ok (.iload_n 2, 1) := by decide +kernel
theorem dX1_doOp_131 : decode cX1_doOp 131 = .ok (.aaload, 1) := by decide +kernel
theorem dX1_doOp_132 : decode cX1_doOp 132 = .ok (.getfield 48, 3) := by decide +kernel
theorem dX1_doOp_135 : decode cX1_doOp 135 = .ok (.goto 4, 3) := by decide +kernel
theorem dX1_doOp_138 : decode cX1_doOp 138 = .ok (.iconst 0, 1) := by decide +kernel
theorem dX1_doOp_139 : decode cX1_doOp 139 = .ok (.invokevirtual 122, 3) := by decide +kernel
theorem dX1_doOp_142 : decode cX1_doOp 142 = .ok (.aload_n 0, 1) := by decide +kernel
theorem dX1_doOp_143 : decode cX1_doOp 143 = .ok (.iconst 1, 1) := by decide +kernel
theorem dX1_doOp_144 : decode cX1_doOp 144 = .ok (.invokevirtual 125, 3) := by decide +kernel
theorem dX1_doOp_147 : decode cX1_doOp 147 = .ok (.goto 8, 3) := by decide +kernel
theorem dX1_doOp_150 : decode cX1_doOp 150 = .ok (.aload_n 0, 1) := by decide +kernel
theorem dX1_doOp_151 : decode cX1_doOp 151 = .ok (.iload_n 1, 1) := by decide +kernel
theorem dX1_doOp_152 : decode cX1_doOp 152 = .ok (.invokevirtual 128, 3) := by decide +kernel
theorem dX1_doOp_155 : decode cX1_doOp 155 = .ok (.return_, 1) := by decide +kernel
theorem dX1_shiftAny_0 : decode cX1_shiftAny 0 = .ok (.aload_n 0, 1) := by decide +kernel
theorem dX1_shiftAny_1 : decode cX1_shiftAny 1 = .ok (.invokevirtual 108, 3) := by decide +kernel
theorem dX1_shiftAny_4 : decode cX1_shiftAny 4 = .ok (.istore_n 2, 1) := by decide +kernel
theorem dX1_shiftAny_5 : decode cX1_shiftAny 5 = .ok (.iload_n 1, 1) := by decide +kernel
theorem dX1_shiftAny_6 : decode cX1_shiftAny 6 = .ok (.bipush 6, 2) := by decide +kernel
theorem dX1_shiftAny_8 : decode cX1_shiftAny 8 = .ok (.if_icmp .ne 16, 3) := by decide +kernel
theorem dX1_shiftAny_11 : decode cX1_shiftAny 11 = .ok (.aload_n 0, 1) := by decide +kernel
theorem dX1_shiftAny_12 : decode cX1_shiftAny 12 = .ok (.iload_n 2, 1) := by decide +kernel
theorem dX1_shiftAny_13 : decode cX1_shiftAny 13 = .ok (.invokevirtual 125, 3) := by decide +kernel
theorem dX1_shiftAny_16 : decode cX1_shiftAny 16 = .ok (.aload_n 0, 1) := by decide +kernel
theorem dX1_shiftAny_17 : decode cX1_shiftAny 17 = .ok (.iload_n 2, 1) := by decide +kernel
theorem dX1_shiftAny_18 : decode cX1_shiftAny 18 = .ok (.invokevirtual 125, 3) := by decide +kernel
theorem dX1_shiftAny_21 : decode cX1_shiftAny 21 = .ok (.goto 24, 3) := by decide +kernel
theorem dX1_shiftAny_24 : decode cX1_shiftAny 24 = .ok (.iload_n 1, 1) := by decide +kernel
theorem dX1_shiftAny_25 : decode cX1_shiftAny 25 = .ok (.bipush 8, 2) := by decide +kernel
theorem dX1_shiftAny_27 : decode cX1_shiftAny 27 = .ok (.if_icmp .ne 18, 3) := by decide +kernel
theorem dX1_shiftAny_30 : decode cX1_shiftAny 30 = .ok (.aload_n 0, 1) := by decide +kernel
theorem dX1_shiftAny_31 : decode cX1_shiftAny 31 = .ok (.invokevirtual 108, 3) := by decide +kernel
theorem dX1_shiftAny_34 : decode cX1_shiftAny 34 = .ok (.istore_n 3, 1) := by decide +kernel
theorem dX1_shiftAny_35 : decode cX1_shiftAny 35 = .ok (.aload_n 0, 1) := by decide +kernel
theorem dX1_shiftAny_36 : decode cX1_shiftAny 36 = .ok (.iload_n 2, 1) := by decide +kernel
theorem dX1_shiftAny_37 : decode cX1_shiftAny 37 = .ok (.invokevirtual 125, 3) := by decide +kernel
theorem dX1_shiftAny_40 : decode cX1_shiftAny 40 = .ok (.aload_n 0, 1) := by decide +kernel
theorem dX1_shiftAny_41 : decode cX1_shiftAny 41 = .ok (.iload_n 3, 1) := by decide +kernel
theorem dX1_shiftAny_42 : decode cX1_shiftAny 42 = .ok (.invokevirtual 125, 3) := by decide +kernel
theorem dX1_shiftAny_45 : decode cX1_shiftAny 45 = .ok (.return_, 1) := by decide +kernel
theorem dX1_doTyped_0 : decode cX1_doTyped 0 = .ok (.iload_n 1, 1) := by decide +kernel
theorem dX1_doTyped_1 : decode cX1_doTyped 1 = .ok (.ifCond .lt 19, 3) := by decide +kernel
theorem dX1_doTyped_4 : decode cX1_doTyped 4 = .ok (.iload_n 1, 1) := by decide +kernel
theorem dX1_doTyped_5 : decode cX1_doTyped 5 = .ok (.getstatic 131, 3) := by decide +kernel
theorem dX1_doTyped_8 : decode cX1_doTyped 8 = .ok (.arraylength, 1) := by decide +kernel
theorem dX1_doTyped_9 : decode cX1_doTyped 9 = .ok (.if_icmp .ge 11, 3) := by decide +kernel
theorem dX1_doTyped_12 : decode cX1_doTyped 12 = .ok (.iload_n 1, 1) := by decide +kernel
theorem dX1_doTyped_13 : decode cX1_doTyped 13 = .ok (.getstatic 134, 3) := by decide +kernel
theorem dX1_doTyped_16 : decode cX1_doTyped 16 = .ok (.arraylength, 1) := by decide +kernel
theorem dX1_doTyped_17 : decode cX1_doTyped 17 = .ok (.if_icmp .lt 4, 3) := by decide +kernel
theorem dX1_doTyped_20 : decode cX1_doTyped 20 = .ok (.return_, 1) := by decide +kernel
theorem dX1_doTyped_21 : decode cX1_doTyped 21 = .ok (.iconst 0, 1) := by decide +kernel
theorem dX1_doTyped_22 : decode cX1_doTyped 22 = .ok (.istore_n 2, 1) := by decide +kernel
theorem dX1_doTyped_23 : decode cX1_doTyped 23 = .ok (.iload_n 2, 1) := by decide +kernel
theorem dX1_doTyped_24 : decode cX1_doTyped 24 = .ok (.getstatic 131, 3) := by decide +kernel
theorem dX1_doTyped_27 : decode cX1_doTyped 27 = .ok (.iload_n 1, 1) := by decide +kernel
theorem dX1_doTyped_28 : decode cX1_doTyped 28 = .ok (.iaload, 1) := by decide +kernel
theorem dX1_doTyped_29 : decode cX1_doTyped 29 = .ok (.if_icmp .ge 31, 3) := by decide +kernel
theorem dX1_doTyped_32 : decode cX1_doTyped 32 = .ok (.aload_n 0, 1) := by decide +kernel
theorem dX1_doTyped_33 : decode cX1_doTyped 33 = .ok (.dup, 1) := by decide +kernel
theorem dX1_doTyped_34 : decode cX1_doTyped 34 = .ok (.getfield 29, 3) := by decide +kernel
theorem dX1_doTyped_37 : decode cX1_doTyped 37 = .ok (.aload_n 0, 1) := by decide +kernel
theorem dX1_doTyped_38 : decode cX1_doTyped 38 = .ok (.invokevirtual 108, 3) := by decide +kernel
theorem dX1_doTyped_41 : decode cX1_doTyped 41 = .ok (.iconst 1, 1) := by decide +kernel
theorem dX1_doTyped_42 : decode cX1_doTyped 42 = .ok (.if_icmp .eq 7, 3) := by decide +kernel
theorem dX1_doTyped_45 : decode cX1_doTyped 45 = .ok (.iconst 1, 1) := by decide +kernel
theorem dX1_doTyped_46 : decode cX1_doTyped 46 = .ok (.goto 4, 3) := by decide +kernel
theorem dX1_doTyped_49 : decode cX1_doTyped 49 = .ok (.iconst 0, 1) := by decide +kernel
theorem dX1_doTyped_50 : decode cX1_doTyped 50 = .ok (.ior, 1) := by decide +kernel
theorem dX1_doTyped_51 : decode cX1_doTyped 51 = .ok (.putfield 29, 3) := by decide +kernel
theorem dX1_doTyped_54 : decode cX1_doTyped 54 = .ok (.iinc 2 1, 3) := by decide +kernel
theorem dX1_doTyped_57 : decode cX1_doTyped 57 = .ok (.goto (-34), 3) := by decide +kernel
theorem dX1_doTyped_60 : decode cX1_doTyped 60 = .ok (.iload_n 1, 1) := by decide +kernel
theorem dX1_doTyped_61 : decode cX1_doTyped 61 = .ok (.bipush 37, 2) := by decide +kernel
theorem dX1_doTyped_63 : decode cX1_doTyped 63 = .ok (.if_icmp .eq 15, 3) := by decide +kernel
theorem dX1_doTyped_66 : decode cX1_doTyped 66 = .ok (.iload_n 1, 1) := by decide +kernel
theorem dX1_doTyped_67 : decode cX1_doTyped 67 = .ok (.bipush 38, 2) := by decide +kernel
theorem dX1_doTyped_69 : decode cX1_doTyped 69 = .ok (.if_icmp .eq 9, 3) := by decide +kernel
theorem dX1_doTyped_72 : decode cX1_doTyped 72 = .ok (.iload_n 1, 1) := by decide +kernel
theorem dX1_doTyped_73 : decode cX1_doTyped 73 = .ok (.bipush 39, 2) := by decide +kernel
theorem dX1_doTyped_75 : decode cX1_doTyped 75 = .ok (.if_icmp .ne 25, 3) := by decide +kernel
theorem dX1_doTyped_78 : decode cX1_doTyped 78 = .ok (.aload_n 0, 1) := by decide +kernel
theorem dX1_doTyped_79 : decode cX1_doTyped 79 = .ok (.dup, 1) := by decide +kernel
theorem dX1_doTyped_80 : decode cX1_doTyped 80 = .ok (.getfield 29, 3) := by decide +kernel
theorem dX1_doTyped_83 : decode cX1_doTyped 83 = .ok (.aload_n 0, 1) := by decide +kernel
theorem dX1_doTyped_84 : decode cX1_doTyped 84 = .ok (.invokevirtual 108, 3) := by decide +kernel
theorem dX1_doTyped_87 : decode cX1_doTyped 87 = .ok (.iconst 2, 1) := by decide +kernel
theorem dX1_doTyped_88 : decode cX1_doTyped 88 = .ok (.if_icmp .eq 7, 3) := by decide +kernel
theorem dX1_doTyped_91 : decode cX1_doTyped 91 = .ok (.iconst 1, 1) := by decide +kernel
theorem dX1_doTyped_92 : decode cX1_doTyped 92 = .ok (.goto 4, 3) := by decide +kernel
theorem dX1_doTyped_95 : decode cX1_doTyped 95 = .ok (.iconst 0, 1) := by decide +kernel
theorem dX1_doTyped_96 : decode cX1_doTyped 96 = .ok (.ior, 1) := by decide +kernel
theorem dX1_doTyped_97 : decode cX1_doTyped 97 = .ok (.putfield 29, 3) := by decide +kernel
theorem dX1_doTyped_100 : decode cX1_doTyped 100 = .ok (.iload_n 1, 1) := by decide +kernel
theorem dX1_doTyped_101 : decode cX1_doTyped 101 = .ok (.bipush 36, 2) := by decide +kernel
theorem dX1_doTyped_103 : decode cX1_doTyped 103 = .ok (.if_icmp .ne 11, 3) := by decide +kernel
theorem dX1_doTyped_106 : decode cX1_doTyped 106 = .ok (.aload_n 0, 1) := by decide +kernel
theorem dX1_doTyped_107 : decode cX1_doTyped 107 = .ok (.iconst 2, 1) := by decide +kernel
theorem dX1_doTyped_108 : decode cX1_doTyped 108 = .ok (.invokevirtual 125, 3) := by decide +kernel
theorem dX1_doTyped_111 : decode cX1_doTyped 111 = .ok (.goto 16, 3) := by decide +kernel
theorem dX1_doTyped_114 : decode cX1_doTyped 114 = .ok (.getstatic 134, 3) := by decide +kernel
theorem dX1_doTyped_117 : decode cX1_doTyped 117 = .ok (.iload_n 1, 1) := by decide +kernel
theorem dX1_doTyped_118 : decode cX1_doTyped 118 = .ok (.iaload, 1) := by decide +kernel
theorem dX1_doTyped_119 : decode cX1_doTyped 119 = .ok (.ifCond .le 8, 3) := by decide +kernel
theorem dX1_doTyped_122 : decode cX1_doTyped 122 = .ok (.aload_n 0, 1) := by decide +kernel
theorem dX1_doTyped_123 : decode cX1_doTyped 123 = .ok (.iconst 1, 1) := by decide +kernel
theorem dX1_doTyped_124 : decode cX1_doTyped 124 = .ok (.invokevirtual 125, 3) := by decide +kernel
theorem dX1_doTyped_127 : decode cX1_doTyped 127 = .ok (.return_, 1) := by decide +kernel
theorem dX1_loadType_0 : decode cX1_loadType 0 = .ok (.aload_n 0, 1) := by decide +kernel
theorem dX1_loadType_1 : decode cX1_loadType 1 = .ok (.iload_n 1, 1) := by decide +kernel
theorem dX1_loadType_2 : decode cX1_loadType 2 = .ok (.invokevirtual 116, 3) := by decide +kernel
theorem dX1_loadType_5 : decode cX1_loadType 5 = .ok (.istore_n 2, 1) := by decide +kernel
theorem dX1_loadType_6 : decode cX1_loadType 6 = .ok (.aload_n 0, 1) := by decide +kernel
theorem dX1_loadType_7 : decode cX1_loadType 7 = .ok (.dup, 1) := by decide +kernel
theorem dX1_loadType_8 : decode cX1_loadType 8 = .ok (.getfield 29, 3) := by decide +kernel
theorem dX1_loadType_11 : decode cX1_loadType 11 = .ok (.iload_n 2, 1) := by decide +kernel
theorem dX1_loadType_12 : decode cX1_loadType 12 = .ok (.ifCond .ne 7, 3) := by decide +kernel
theorem dX1_loadType_15 : decode cX1_loadType 15 = .ok (.iconst 1, 1) := by decide +kernel
theorem dX1_loadType_16 : decode cX1_loadType 16 = .ok (.goto 4, 3) := by decide +kernel
theorem dX1_loadType_19 : decode cX1_loadType 19 = .ok (.iconst 0, 1) := by decide +kernel
theorem dX1_loadType_20 : decode cX1_loadType 20 = .ok (.ior, 1) := by decide +kernel
theorem dX1_loadType_21 : decode cX1_loadType 21 = .ok (.putfield 29, 3) := by decide +kernel
theorem dX1_loadType_24 : decode cX1_loadType 24 = .ok (.aload_n 0, 1) := by decide +kernel
theorem dX1_loadType_25 : decode cX1_loadType 25 = .ok (.iload_n 2, 1) := by decide +kernel
theorem dX1_loadType_26 : decode cX1_loadType 26 = .ok (.invokevirtual 125, 3) := by decide +kernel
theorem dX1_loadType_29 : decode cX1_loadType 29 = .ok (.return_, 1) := by decide +kernel
theorem dX1_localType_0 : decode cX1_localType 0 = .ok (.iload_n 1, 1) := by decide +kernel
theorem dX1_localType_1 : decode cX1_localType 1 = .ok (.ifCond .lt 22, 3) := by decide +kernel
theorem dX1_localType_4 : decode cX1_localType 4 = .ok (.iload_n 1, 1) := by decide +kernel
theorem dX1_localType_5 : decode cX1_localType 5 = .ok (.bipush 12, 2) := by decide +kernel
theorem dX1_localType_7 : decode cX1_localType 7 = .ok (.if_icmp .ge 16, 3) := by decide +kernel
theorem dX1_localType_10 : decode cX1_localType 10 = .ok (.aload_n 0, 1) := by decide +kernel
theorem dX1_localType_11 : decode cX1_localType 11 = .ok (.getfield 26, 3) := by decide +kernel
theorem dX1_localType_14 : decode cX1_localType 14 = .ok (.iconst 2, 1) := by decide +kernel
theorem dX1_localType_15 : decode cX1_localType 15 = .ok (.iload_n 1, 1) := by decide +kernel
theorem dX1_localType_16 : decode cX1_localType 16 = .ok (.imul, 1) := by decide +kernel
theorem dX1_localType_17 : decode cX1_localType 17 = .ok (.ishr, 1) := by decide +kernel
theorem dX1_localType_18 : decode cX1_localType 18 = .ok (.iconst 3, 1) := by decide +kernel
theorem dX1_localType_19 : decode cX1_localType 19 = .ok (.iand, 1) := by decide +kernel
theorem dX1_localType_20 : decode cX1_localType 20 = .ok (.goto 4, 3) := by decide +kernel
theorem dX1_localType_23 : decode cX1_localType 23 = .ok (.iconst 0, 1) := by decide +kernel
theorem dX1_localType_24 : decode cX1_localType 24 = .ok (.ireturn, 1) := by decide +kernel
theorem dX1_setLocalType_0 : decode cX1_setLocalType 0 = .ok (.iload_n 1, 1) := by decide +kernel
theorem dX1_setLocalType_1 : decode cX1_setLocalType 1 = .ok (.ifCond .lt 31, 3) := by decide +kernel
theorem dX1_setLocalType_4 : decode cX1_setLocalType 4 = .ok (.iload_n 1, 1) := by decide +kernel
theorem dX1_setLocalType_5 : decode cX1_setLocalType 5 = .ok (.bipush 12, 2) := by decide +kernel
theorem dX1_setLocalType_7 : decode cX1_setLocalType 7 = .ok (.if_icmp .ge 25, 3) := by decide +kernel
theorem dX1_setLocalType_10 : decode cX1_setLocalType 10 = .ok (.aload_n 0, 1) := by decide +kernel
theorem dX1_setLocalType_11 : decode cX1_setLocalType 11 = .ok (.aload_n 0, 1) := by decide +kernel
theorem dX1_setLocalType_12 : decode cX1_setLocalType 12 = .ok (.getfield 26, 3) := by decide +kernel
theorem dX1_setLocalType_15 : decode cX1_setLocalType 15 = .ok (.iconst 3, 1) := by decide +kernel
theorem dX1_setLocalType_16 : decode cX1_setLocalType 16 = .ok (.iconst 2, 1) := by decide +kernel
theorem dX1_setLocalType_17 : decode cX1_setLocalType 17 = .ok (.iload_n 1, 1) := by decide +kernel
theorem dX1_setLocalType_18 : decode cX1_setLocalType 18 = .ok (.imul, 1) := by decide +kernel
theorem dX1_setLocalType_19 : decode cX1_setLocalType 19 = .ok (.ishl, 1) := by decide +kernel
theorem dX1_setLocalType_20 : decode cX1_setLocalType 20 = .ok (.iconst (-1), 1) := by decide +kernel
theorem dX1_setLocalType_21 : decode cX1_setLocalType 21 = .ok (.ixor, 1) := by decide +kernel
theorem dX1_setLocalType_22 : decode cX1_setLocalType 22 = .ok (.iand, 1) := by decide +kernel
theorem dX1_setLocalType_23 : decode cX1_setLocalType 23 = .ok (.iload_n 2, 1) := by decide +kernel
theorem dX1_setLocalType_24 : decode cX1_setLocalType 24 = .ok (.iconst 2, 1) := by decide +kernel
theorem dX1_setLocalType_25 : decode cX1_setLocalType 25 = .ok (.iload_n 1, 1) := by decide +kernel
theorem dX1_setLocalType_26 : decode cX1_setLocalType 26 = .ok (.imul, 1) := by decide +kernel
theorem dX1_setLocalType_27 : decode cX1_setLocalType 27 = .ok (.ishl, 1) := by decide +kernel
theorem dX1_setLocalType_28 : decode cX1_setLocalType 28 = .ok (.ior, 1) := by decide +kernel
theorem dX1_setLocalType_29 : decode cX1_setLocalType 29 = .ok (.putfield 26, 3) := by decide +kernel
theorem dX1_setLocalType_32 : decode cX1_setLocalType 32 = .ok (.return_, 1) := by decide +kernel
theorem dX1_put_0 : decode cX1_put 0 = .ok (.aload_n 0, 1) := by decide +kernel
theorem dX1_put_1 : decode cX1_put 1 = .ok (.getfield 23, 3) := by decide +kernel
theorem dX1_put_4 : decode cX1_put 4 = .ok (.bipush 20, 2) := by decide +kernel
theorem dX1_put_6 : decode cX1_put 6 = .ok (.ishr, 1) := by decide +kernel
theorem dX1_put_7 : decode cX1_put 7 = .ok (.istore_n 2, 1) := by decide +kernel
theorem dX1_put_8 : decode cX1_put 8 = .ok (.iload_n 2, 1) := by decide +kernel
theorem dX1_put_9 : decode cX1_put 9 = .ok (.bipush 10, 2) := by decide +kernel
theorem dX1_put_11 : decode cX1_put 11 = .ok (.if_icmp .lt 9, 3) := by decide +kernel
theorem dX1_put_14 : decode cX1_put 14 = .ok (.aload_n 0, 1) := by decide +kernel
theorem dX1_put_15 : decode cX1_put 15 = .ok (.iconst 1, 1) := by decide +kernel
theorem dX1_put_16 : decode cX1_put 16 = .ok (.putfield 29, 3) := by decide +kernel
theorem dX1_put_19 : decode cX1_put 19 = .ok (.return_, 1) := by decide +kernel
theorem dX1_put_20 : decode cX1_put 20 = .ok (.aload_n 0, 1) := by decide +kernel
theorem dX1_put_21 : decode cX1_put 21 = .ok (.iload_n 2, 1) := by decide +kernel
theorem dX1_put_22 : decode cX1_put 22 = .ok (.iconst 1, 1) := by decide +kernel
theorem dX1_put_23 : decode cX1_put 23 = .ok (.iadd, 1) := by decide +kernel
theorem dX1_put_24 : decode cX1_put 24 = .ok (.bipush 20, 2) := by decide +kernel
theorem dX1_put_26 : decode cX1_put 26 = .ok (.ishl, 1) := by decide +kernel
theorem dX1_put_27 : decode cX1_put 27 = .ok (.aload_n 0, 1) := by decide +kernel
theorem dX1_put_28 : decode cX1_put 28 = .ok (.getfield 23, 3) := by decide +kernel
theorem dX1_put_31 : decode cX1_put 31 = .ok (.ldc 137, 2) := by decide +kernel
theorem dX1_put_33 : decode cX1_put 33 = .ok (.iand, 1) := by decide +kernel
theorem dX1_put_34 : decode cX1_put 34 = .ok (.ior, 1) := by decide +kernel
theorem dX1_put_35 : decode cX1_put 35 = .ok (.iload_n 1, 1) := by decide +kernel
theorem dX1_put_36 : decode cX1_put 36 = .ok (.iconst 2, 1) := by decide +kernel
theorem dX1_put_37 : decode cX1_put 37 = .ok (.iload_n 2, 1) := by decide +kernel
theorem dX1_put_38 : decode cX1_put 38 = .ok (.imul, 1) := by decide +kernel
theorem dX1_put_39 : decode cX1_put 39 = .ok (.ishl, 1) := by decide +kernel
theorem dX1_put_40 : decode cX1_put 40 = .ok (.ior, 1) := by decide +kernel
theorem dX1_put_41 : decode cX1_put 41 = .ok (.putfield 23, 3) := by decide +kernel
theorem dX1_put_44 : decode cX1_put 44 = .ok (.return_, 1) := by decide +kernel
theorem dX1_takeAny_0 : decode cX1_takeAny 0 = .ok (.aload_n 0, 1) := by decide +kernel
theorem dX1_takeAny_1 : decode cX1_takeAny 1 = .ok (.getfield 23, 3) := by decide +kernel
theorem dX1_takeAny_4 : decode cX1_takeAny 4 = .ok (.bipush 20, 2) := by decide +kernel
theorem dX1_takeAny_6 : decode cX1_takeAny 6 = .ok (.ishr, 1) := by decide +kernel
theorem dX1_takeAny_7 : decode cX1_takeAny 7 = .ok (.istore_n 1, 1) := by decide +kernel
theorem dX1_takeAny_8 : decode cX1_takeAny 8 = .ok (.iload_n 1, 1) := by decide +kernel
theorem dX1_takeAny_9 : decode cX1_takeAny 9 = .ok (.iconst 1, 1) := by decide +kernel
theorem dX1_takeAny_10 : decode cX1_takeAny 10 = .ok (.if_icmp .ge 10, 3) := by decide +kernel
theorem dX1_takeAny_13 : decode cX1_takeAny 13 = .ok (.aload_n 0, 1) := by decide +kernel
theorem dX1_takeAny_14 : decode cX1_takeAny 14 = .ok (.iconst 1, 1) := by decide +kernel
theorem dX1_takeAny_15 : decode cX1_takeAny 15 = .ok (.putfield 29, 3) := by decide +kernel
theorem dX1_takeAny_18 : decode cX1_takeAny 18 = .ok (.iconst 0, 1) := by decide +kernel
theorem dX1_takeAny_19 : decode cX1_takeAny 19 = .ok (.ireturn, 1) := by decide +kernel
theorem dX1_takeAny_20 : decode cX1_takeAny 20 = .ok (.aload_n 0, 1) := by decide +kernel
theorem dX1_takeAny_21 : decode cX1_takeAny 21 = .ok (.getfield 23, 3) := by decide +kernel
theorem dX1_takeAny_24 : decode cX1_takeAny 24 = .ok (.iconst 2, 1) := by decide +kernel
theorem dX1_takeAny_25 : decode cX1_takeAny 25 = .ok (.iload_n 1, 1) := by decide +kernel
theorem dX1_takeAny_26 : decode cX1_takeAny 26 = .ok (.iconst 1, 1) := by decide +kernel
theorem dX1_takeAny_27 : decode cX1_takeAny 27 = .ok (.isub, 1) := by decide +kernel
theorem dX1_takeAny_28 : decode cX1_takeAny 28 = .ok (.imul, 1) := by decide +kernel
theorem dX1_takeAny_29 : decode cX1_takeAny 29 = .ok (.ishr, 1) := by decide +kernel
theorem dX1_takeAny_30 : decode cX1_takeAny 30 = .ok (.iconst 3, 1) := by decide +kernel
theorem dX1_takeAny_31 : decode cX1_takeAny 31 = .ok (.iand, 1) := by decide +kernel
theorem dX1_takeAny_32 : decode cX1_takeAny 32 = .ok (.istore_n 2, 1) := by decide +kernel
theorem dX1_takeAny_33 : decode cX1_takeAny 33 = .ok (.aload_n 0, 1) := by decide +kernel
theorem dX1_takeAny_34 : decode cX1_takeAny 34 = .ok (.getfield 23, 3) := by decide +kernel
theorem dX1_takeAny_37 : decode cX1_takeAny 37 = .ok (.iconst 1, 1) := by decide +kernel
theorem dX1_takeAny_38 : decode cX1_takeAny 38 = .ok (.iconst 2, 1) := by decide +kernel
theorem dX1_takeAny_39 : decode cX1_takeAny 39 = .ok (.iload_n 1, 1) := by decide +kernel
theorem dX1_takeAny_40 : decode cX1_takeAny 40 = .ok (.iconst 1, 1) := by decide +kernel
theorem dX1_takeAny_41 : decode cX1_takeAny 41 = .ok (.isub, 1) := by decide +kernel
theorem dX1_takeAny_42 : decode cX1_takeAny 42 = .ok (.imul, 1) := by decide +kernel
theorem dX1_takeAny_43 : decode cX1_takeAny 43 = .ok (.ishl, 1) := by decide +kernel
theorem dX1_takeAny_44 : decode cX1_takeAny 44 = .ok (.iconst 1, 1) := by decide +kernel
theorem dX1_takeAny_45 : decode cX1_takeAny 45 = .ok (.isub, 1) := by decide +kernel
theorem dX1_takeAny_46 : decode cX1_takeAny 46 = .ok (.iand, 1) := by decide +kernel
theorem dX1_takeAny_47 : decode cX1_takeAny 47 = .ok (.istore_n 3, 1) := by decide +kernel
theorem dX1_takeAny_48 : decode cX1_takeAny 48 = .ok (.aload_n 0, 1) := by decide +kernel
theorem dX1_takeAny_49 : decode cX1_takeAny 49 = .ok (.iload_n 1, 1) := by decide +kernel
theorem dX1_takeAny_50 : decode cX1_takeAny 50 = .ok (.iconst 1, 1) := by decide +kernel
theorem dX1_takeAny_51 : decode cX1_takeAny 51 = .ok (.isub, 1) := by decide +kernel
theorem dX1_takeAny_52 : decode cX1_takeAny 52 = .ok (.bipush 20, 2) := by decide +kernel
theorem dX1_takeAny_54 : decode cX1_takeAny 54 = .ok (.ishl, 1) := by decide +kernel
theorem dX1_takeAny_55 : decode cX1_takeAny 55 = .ok (.iload_n 3, 1) := by decide +kernel
theorem dX1_takeAny_56 : decode cX1_takeAny 56 = .ok (.ior, 1) := by decide +kernel
theorem dX1_takeAny_57 : decode cX1_takeAny 57 = .ok (.putfield 23, 3) := by decide +kernel
theorem dX1_takeAny_60 : decode cX1_takeAny 60 = .ok (.iload_n 2, 1) := by decide +kernel
theorem dX1_takeAny_61 : decode cX1_takeAny 61 = .ok (.ireturn, 1) := by decide +kernel
theorem dX1_takeInts_0 : decode cX1_takeInts 0 = .ok (.iconst 0, 1) := by decide +kernel
theorem dX1_takeInts_1 : decode cX1_takeInts 1 = .ok (.istore_n 2, 1) := by decide +kernel
theorem dX1_takeInts_2 : decode cX1_takeInts 2 = .ok (.iload_n 2, 1) := by decide +kernel
theorem dX1_takeInts_3 : decode cX1_takeInts 3 = .ok (.iload_n 1, 1) := by decide +kernel
theorem dX1_takeInts_4 : decode cX1_takeInts 4 = .ok (.if_icmp .ge 31, 3) := by decide +kernel
theorem dX1_takeInts_7 : decode cX1_takeInts 7 = .ok (.aload_n 0, 1) := by decide +kernel
theorem dX1_takeInts_8 : decode cX1_takeInts 8 = .ok (.dup, 1) := by decide +kernel
theorem dX1_takeInts_9 : decode cX1_takeInts 9 = .ok (.getfield 29, 3) := by decide +kernel
theorem dX1_takeInts_12 : decode cX1_takeInts 12 = .ok (.aload_n 0, 1) := by decide +kernel
theorem dX1_takeInts_13 : decode cX1_takeInts 13 = .ok (.invokevirtual 108, 3) := by decide +kernel
theorem dX1_takeInts_16 : decode cX1_takeInts 16 = .ok (.iconst 1, 1) := by decide +kernel
theorem dX1_takeInts_17 : decode cX1_takeInts 17 = .ok (.if_icmp .eq 7, 3) := by decide +kernel
theorem dX1_takeInts_20 : decode cX1_takeInts 20 = .ok (.iconst 1, 1) := by decide +kernel
theorem dX1_takeInts_21 : decode cX1_takeInts 21 = .ok (.goto 4, 3) := by decide +kernel
theorem dX1_takeInts_24 : decode cX1_takeInts 24 = .ok (.iconst 0, 1) := by decide +kernel
theorem dX1_takeInts_25 : decode cX1_takeInts 25 = .ok (.ior, 1) := by decide +kernel
theorem dX1_takeInts_26 : decode cX1_takeInts 26 = .ok (.putfield 29, 3) := by decide +kernel
theorem dX1_takeInts_29 : decode cX1_takeInts 29 = .ok (.iinc 2 1, 3) := by decide +kernel
theorem dX1_takeInts_32 : decode cX1_takeInts 32 = .ok (.goto (-30), 3) := by decide +kernel
theorem dX1_takeInts_35 : decode cX1_takeInts 35 = .ok (.return_, 1) := by decide +kernel
theorem dX2_init_0 : decode cX2_init 0 = .ok (.aload_n 0, 1) := by decide +kernel
theorem dX2_init_1 : decode cX2_init 1 = .ok (.invokespecial 3, 3) := by decide +kernel
theorem dX2_init_4 : decode cX2_init 4 = .ok (.aload_n 0, 1) := by decide +kernel
theorem dX2_init_5 : decode cX2_init 5 = .ok (.bipush 12, 2) := by decide +kernel
theorem dX2_init_7 : decode cX2_init 7 = .ok (.anewarray 9, 3) := by decide +kernel
theorem dX2_init_10 : decode cX2_init 10 = .ok (.putfield 11, 3) := by decide +kernel
theorem dX2_init_13 : decode cX2_init 13 = .ok (.aload_n 0, 1) := by decide +kernel
theorem dX2_init_14 : decode cX2_init 14 = .ok (.sipush 1508, 3) := by decide +kernel
theorem dX2_init_17 : decode cX2_init 17 = .ok (.newarray .int, 2) := by decide +kernel
theorem dX2_init_19 : decode cX2_init 19 = .ok (.putfield 17, 3) := by decide +kernel
theorem dX2_init_22 : decode cX2_init 22 = .ok (.aload_n 0, 1) := by decide +kernel
theorem dX2_init_23 : decode cX2_init 23 = .ok (.bipush 30, 2) := by decide +kernel
theorem dX2_init_25 : decode cX2_init 25 = .ok (.newarray .int, 2) := by decide +kernel
theorem dX2_init_27 : decode cX2_init 27 = .ok (.putfield 21, 3) := by decide +kernel
theorem dX2_init_30 : decode cX2_init 30 = .ok (.aload_n 0, 1) := by decide +kernel
theorem dX2_init_31 : decode cX2_init 31 = .ok (.bipush 24, 2) := by decide +kernel
theorem dX2_init_33 : decode cX2_init 33 = .ok (.newarray .int, 2) := by decide +kernel
theorem dX2_init_35 : decode cX2_init 35 = .ok (.putfield 24, 3) := by decide +kernel
theorem dX2_init_38 : decode cX2_init 38 = .ok (.aload_n 0, 1) := by decide +kernel
theorem dX2_init_39 : decode cX2_init 39 = .ok (.iconst 0, 1) := by decide +kernel
theorem dX2_init_40 : decode cX2_init 40 = .ok (.putfield 27, 3) := by decide +kernel
theorem dX2_init_43 : decode cX2_init 43 = .ok (.aload_n 0, 1) := by decide +kernel
theorem dX2_init_44 : decode cX2_init 44 = .ok (.iconst 0, 1) := by decide +kernel
theorem dX2_init_45 : decode cX2_init 45 = .ok (.putfield 31, 3) := by decide +kernel
theorem dX2_init_48 : decode cX2_init 48 = .ok (.aload_n 0, 1) := by decide +kernel
theorem dX2_init_49 : decode cX2_init 49 = .ok (.iconst 0, 1) := by decide +kernel
theorem dX2_init_50 : decode cX2_init 50 = .ok (.putfield 34, 3) := by decide +kernel
theorem dX2_init_53 : decode cX2_init 53 = .ok (.aload_n 0, 1) := by decide +kernel
theorem dX2_init_54 : decode cX2_init 54 = .ok (.iconst 0, 1) := by decide +kernel
theorem dX2_init_55 : decode cX2_init 55 = .ok (.putfield 37, 3) := by decide +kernel
theorem dX2_init_58 : decode cX2_init 58 = .ok (.aload_n 0, 1) := by decide +kernel
theorem dX2_init_59 : decode cX2_init 59 = .ok (.iconst (-1), 1) := by decide +kernel
theorem dX2_init_60 : decode cX2_init 60 = .ok (.putfield 40, 3) := by decide +kernel
theorem dX2_init_63 : decode cX2_init 63 = .ok (.aload_n 0, 1) := by decide +kernel
theorem dX2_init_64 : decode cX2_init 64 = .ok (.iconst (-1), 1) := by decide +kernel
theorem dX2_init_65 : decode cX2_init 65 = .ok (.putfield 43, 3) := by decide +kernel
theorem dX2_init_68 : decode cX2_init 68 = .ok (.aload_n 0, 1) := by decide +kernel
theorem dX2_init_69 : decode cX2_init 69 = .ok (.iconst (-1), 1) := by decide +kernel
theorem dX2_init_70 : decode cX2_init 70 = .ok (.putfield 46, 3) := by decide +kernel
theorem dX2_init_73 : decode cX2_init 73 = .ok (.aload_n 0, 1) := by decide +kernel
theorem dX2_init_74 : decode cX2_init 74 = .ok (.iconst 0, 1) := by decide +kernel
theorem dX2_init_75 : decode cX2_init 75 = .ok (.putfield 49, 3) := by decide +kernel
theorem dX2_init_78 : decode cX2_init 78 = .ok (.aload_n 0, 1) := by decide +kernel
theorem dX2_init_79 : decode cX2_init 79 = .ok (.iconst 0, 1) := by decide +kernel
theorem dX2_init_80 : decode cX2_init 80 = .ok (.putfield 52, 3) := by decide +kernel
theorem dX2_init_83 : decode cX2_init 83 = .ok (.aload_n 0, 1) := by decide +kernel
theorem dX2_init_84 : decode cX2_init 84 = .ok (.iconst (-1), 1) := by decide +kernel
theorem dX2_init_85 : decode cX2_init 85 = .ok (.putfield 56, 3) := by decide +kernel
theorem dX2_init_88 : decode cX2_init 88 = .ok (.aload_n 0, 1) := by decide +kernel
theorem dX2_init_89 : decode cX2_init 89 = .ok (.aload_n 1, 1) := by decide +kernel
theorem dX2_init_90 : decode cX2_init 90 = .ok (.putfield 59, 3) := by decide +kernel
theorem dX2_init_93 : decode cX2_init 93 = .ok (.aload_n 0, 1) := by decide +kernel
theorem dX2_init_94 : decode cX2_init 94 = .ok (.aload_n 2, 1) := by decide +kernel
theorem dX2_init_95 : decode cX2_init 95 = .ok (.putfield 63, 3) := by decide +kernel
theorem dX2_init_98 : decode cX2_init 98 = .ok (.aload_n 0, 1) := by decide +kernel
theorem dX2_init_99 : decode cX2_init 99 = .ok (.aload_n 3, 1) := by decide +kernel
theorem dX2_init_100 : decode cX2_init 100 = .ok (.putfield 67, 3) := by decide +kernel
theorem dX2_init_103 : decode cX2_init 103 = .ok (.iconst 0, 1) := by decide +kernel
theorem dX2_init_104 : decode cX2_init 104 = .ok (.istore 4, 2) := by decide +kernel
theorem dX2_init_106 : decode cX2_init 106 = .ok (.iload 4, 2) := by decide +kernel
theorem dX2_init_108 : decode cX2_init 108 = .ok (.bipush 12, 2) := by decide +kernel
theorem dX2_init_110 : decode cX2_init 110 = .ok (.if_icmp .ge 26, 3) := by decide +kernel
theorem dX2_init_113 : decode cX2_init 113 = .ok (.aload_n 0, 1) := by decide +kernel
theorem dX2_init_114 : decode cX2_init 114 = .ok (.getfield 11, 3) := by decide +kernel
theorem dX2_init_117 : decode cX2_init 117 = .ok (.iload 4, 2) := by decide +kernel
theorem dX2_init_119 : decode cX2_init 119 = .ok (.new 9, 3) := by decide +kernel
theorem dX2_init_122 : decode cX2_init 122 = .ok (.dup, 1) := by decide +kernel
theorem dX2_init_123 : decode cX2_init 123 = .ok (.aload_n 1, 1) := by decide +kernel
theorem dX2_init_124 : decode cX2_init 124 = .ok (.iconst 0, 1) := by decide +kernel
theorem dX2_init_125 : decode cX2_init 125 = .ok (.aaload, 1) := by decide +kernel
theorem dX2_init_126 : decode cX2_init 126 = .ok (.invokespecial 71, 3) := by decide +kernel
theorem dX2_init_129 : decode cX2_init 129 = .ok (.aastore, 1) := by decide +kernel
theorem dX2_init_130 : decode cX2_init 130 = .ok (.iinc 4 1, 3) := by decide +kernel
theorem dX2_init_133 : decode cX2_init 133 = .ok (.goto (-27), 3) := by decide +kernel
theorem dX2_init_136 : decode cX2_init 136 = .ok (.return_, 1) := by decide +kernel
theorem dX2_perform_0 : decode cX2_perform 0 = .ok (.aload_n 0, 1) := by decide +kernel
theorem dX2_perform_1 : decode cX2_perform 1 = .ok (.aload_n 1, 1) := by decide +kernel
theorem dX2_perform_2 : decode cX2_perform 2 = .ok (.putfield 67, 3) := by decide +kernel
theorem dX2_perform_5 : decode cX2_perform 5 = .ok (.aload_n 0, 1) := by decide +kernel
theorem dX2_perform_6 : decode cX2_perform 6 = .ok (.getfield 67, 3) := by decide +kernel
theorem dX2_perform_9 : decode cX2_perform 9 = .ok (.invokevirtual 74, 3) := by decide +kernel
theorem dX2_perform_12 : decode cX2_perform 12 = .ok (.aload_n 0, 1) := by decide +kernel
theorem dX2_perform_13 : decode cX2_perform 13 = .ok (.iload_n 2, 1) := by decide +kernel
theorem dX2_perform_14 : decode cX2_perform 14 = .ok (.putfield 27, 3) := by decide +kernel
theorem dX2_perform_17 : decode cX2_perform 17 = .ok (.aload_n 0, 1) := by decide +kernel
theorem dX2_perform_18 : decode cX2_perform 18 = .ok (.iload 6, 2) := by decide +kernel
theorem dX2_perform_20 : decode cX2_perform 20 = .ok (.putfield 31, 3) := by decide +kernel
theorem dX2_perform_23 : decode cX2_perform 23 = .ok (.aload_n 0, 1) := by decide +kernel
theorem dX2_perform_24 : decode cX2_perform 24 = .ok (.iconst 0, 1) := by decide +kernel
theorem dX2_perform_25 : decode cX2_perform 25 = .ok (.putfield 34, 3) := by decide +kernel
theorem dX2_perform_28 : decode cX2_perform 28 = .ok (.aload_n 0, 1) := by decide +kernel
theorem dX2_perform_29 : decode cX2_perform 29 = .ok (.iconst 0, 1) := by decide +kernel
theorem dX2_perform_30 : decode cX2_perform 30 = .ok (.putfield 37, 3) := by decide +kernel
theorem dX2_perform_33 : decode cX2_perform 33 = .ok (.aload_n 0, 1) := by decide +kernel
theorem dX2_perform_34 : decode cX2_perform 34 = .ok (.getfield 17, 3) := by decide +kernel
theorem dX2_perform_37 : decode cX2_perform 37 = .ok (.iconst 0, 1) := by decide +kernel
theorem dX2_perform_38 : decode cX2_perform 38 = .ok (.bipush 8, 2) := by decide +kernel
theorem dX2_perform_40 : decode cX2_perform 40 = .ok (.iconst 0, 1) := by decide +kernel
theorem dX2_perform_41 : decode cX2_perform 41 = .ok (.invokestatic 79, 3) := by decide +kernel
theorem dX2_perform_44 : decode cX2_perform 44 = .ok (.aload_n 0, 1) := by decide +kernel
theorem dX2_perform_45 : decode cX2_perform 45 = .ok (.getfield 24, 3) := by decide +kernel
theorem dX2_perform_48 : decode cX2_perform 48 = .ok (.iconst 0, 1) := by decide +kernel
theorem dX2_perform_49 : decode cX2_perform 49 = .ok (.invokestatic 85, 3) := by decide +kernel
theorem dX2_perform_52 : decode cX2_perform 52 = .ok (.aload_n 0, 1) := by decide +kernel
theorem dX2_perform_53 : decode cX2_perform 53 = .ok (.aload_n 3, 1) := by decide +kernel
theorem dX2_perform_54 : decode cX2_perform 54 = .ok (.invokevirtual 88, 3) := by decide +kernel
theorem dX2_perform_57 : decode cX2_perform 57 = .ok (.astore 7, 2) := by decide +kernel
theorem dX2_perform_59 : decode cX2_perform 59 = .ok (.aload 7, 2) := by decide +kernel
theorem dX2_perform_61 : decode cX2_perform 61 = .ok (.iconst 0, 1) := by decide +kernel
theorem dX2_perform_62 : decode cX2_perform 62 = .ok (.aload_n 3, 1) := by decide +kernel
theorem dX2_perform_63 : decode cX2_perform 63 = .ok (.getfield 92, 3) := by decide +kernel
theorem dX2_perform_66 : decode cX2_perform 66 = .ok (.ifCond .le 8, 3) := by decide +kernel
theorem dX2_perform_69 : decode cX2_perform 69 = .ok (.iload 4, 2) := by decide +kernel
theorem dX2_perform_71 : decode cX2_perform 71 = .ok (.goto 4, 3) := by decide +kernel
theorem dX2_perform_74 : decode cX2_perform 74 = .ok (.iconst 0, 1) := by decide +kernel
theorem dX2_perform_75 : decode cX2_perform 75 = .ok (.invokevirtual 97, 3) := by decide +kernel
theorem dX2_perform_78 : decode cX2_perform 78 = .ok (.aload 7, 2) := by decide +kernel
theorem dX2_perform_80 : decode cX2_perform 80 = .ok (.iconst 1, 1) := by decide +kernel
theorem dX2_perform_81 : decode cX2_perform 81 = .ok (.aload_n 3, 1) := by decide +kernel
theorem dX2_perform_82 : decode cX2_perform 82 = .ok (.getfield 92, 3) := by decide +kernel
theorem dX2_perform_85 : decode cX2_perform 85 = .ok (.iconst 1, 1) := by decide +kernel
theorem dX2_perform_86 : decode cX2_perform 86 = .ok (.if_icmp .le 8, 3) := by decide +kernel
theorem dX2_perform_89 : decode cX2_perform 89 = .ok (.iload 5, 2) := by decide +kernel
theorem dX2_perform_91 : decode cX2_perform 91 = .ok (.goto 4, 3) := by decide +kernel
theorem dX2_perform_94 : decode cX2_perform 94 = .ok (.iconst 0, 1) := by decide +kernel
theorem dX2_perform_95 : decode cX2_perform 95 = .ok (.invokevirtual 97, 3) := by decide +kernel
theorem dX2_perform_98 : decode cX2_perform 98 = .ok (.aload_n 0, 1) := by decide +kernel
theorem dX2_perform_99 : decode cX2_perform 99 = .ok (.aload 7, 2) := by decide +kernel
theorem dX2_perform_101 : decode cX2_perform 101 = .ok (.invokevirtual 101, 3) := by decide +kernel
theorem dX2_perform_104 : decode cX2_perform 104 = .ok (.iconst 0, 1) := by decide +kernel
theorem dX2_perform_105 : decode cX2_perform 105 = .ok (.istore 8, 2) := by decide +kernel
theorem dX2_perform_107 : decode cX2_perform 107 = .ok (.iload 8, 2) := by decide +kernel
theorem dX2_perform_109 : decode cX2_perform 109 = .ok (.ldc 105, 2) := by decide +kernel
theorem dX2_perform_111 : decode cX2_perform 111 = .ok (.if_icmp .ge 42, 3) := by decide +kernel
theorem dX2_perform_114 : decode cX2_perform 114 = .ok (.aload_n 0, 1) := by decide +kernel
theorem dX2_perform_115 : decode cX2_perform 115 = .ok (.getfield 67, 3) := by decide +kernel
theorem dX2_perform_118 : decode cX2_perform 118 = .ok (.getfield 106, 3) := by decide +kernel
theorem dX2_perform_121 : decode cX2_perform 121 = .ok (.iconst (-1), 1) := by decide +kernel
theorem dX2_perform_122 : decode cX2_perform 122 = .ok (.if_icmp .ne 31, 3) := by decide +kernel
theorem dX2_perform_125 : decode cX2_perform 125 = .ok (.aload_n 0, 1) := by decide +kernel
theorem dX2_perform_126 : decode cX2_perform 126 = .ok (.getfield 34, 3) := by decide +kernel
theorem dX2_perform_129 : decode cX2_perform 129 = .ok (.ifCond .le 24, 3) := by decide +kernel
theorem dX2_perform_132 : decode cX2_perform 132 = .ok (.aload_n 0, 1) := by decide +kernel
theorem dX2_perform_133 : decode cX2_perform 133 = .ok (.aload_n 0, 1) := by decide +kernel
theorem dX2_perform_134 : decode cX2_perform 134 = .ok (.getfield 11, 3) := by decide +kernel
theorem dX2_perform_137 : decode cX2_perform 137 = .ok (.aload_n 0, 1) := by decide +kernel
theorem dX2_perform_138 : decode cX2_perform 138 = .ok (.getfield 34, 3) := by decide +kernel
theorem dX2_perform_141 : decode cX2_perform 141 = .ok (.iconst 1, 1) := by decide +kernel
theorem dX2_perform_142 : decode cX2_perform 142 = .ok (.isub, 1) := by decide +kernel
theorem dX2_perform_143 : decode cX2_perform 143 = .ok (.aaload, 1) := by decide +kernel
theorem dX2_perform_144 : decode cX2_perform 144 = .ok (.invokevirtual 109, 3) := by decide +kernel
theorem dX2_perform_147 : decode cX2_perform 147 = .ok (.iinc 8 1, 3) := by decide +kernel
theorem dX2_perform_150 : decode cX2_perform 150 = .ok (.goto (-43), 3) := by decide +kernel
theorem dX2_perform_153 : decode cX2_perform 153 = .ok (.aload_n 0, 1) := by decide +kernel
theorem dX2_perform_154 : decode cX2_perform 154 = .ok (.getfield 17, 3) := by decide +kernel
theorem dX2_perform_157 : decode cX2_perform 157 = .ok (.iconst 0, 1) := by decide +kernel
theorem dX2_perform_158 : decode cX2_perform 158 = .ok (.aload_n 0, 1) := by decide +kernel
theorem dX2_perform_159 : decode cX2_perform 159 = .ok (.getfield 67, 3) := by decide +kernel
theorem dX2_perform_162 : decode cX2_perform 162 = .ok (.getfield 112, 3) := by decide +kernel
theorem dX2_perform_165 : decode cX2_perform 165 = .ok (.iconst 0, 1) := by decide +kernel
theorem dX2_perform_166 : decode cX2_perform 166 = .ok (.bipush 8, 2) := by decide +kernel
theorem dX2_perform_168 : decode cX2_perform 168 = .ok (.invokestatic 115, 3) := by decide +kernel
theorem dX2_perform_171 : decode cX2_perform 171 = .ok (.return_, 1) := by decide +kernel
theorem dX2_openFrame_0 : decode cX2_openFrame 0 = .ok (.aload_n 0, 1) := by decide +kernel
theorem dX2_openFrame_1 : decode cX2_openFrame 1 = .ok (.getfield 34, 3) := by decide +kernel
theorem dX2_openFrame_4 : decode cX2_openFrame 4 = .ok (.iconst 0, 1) := by decide +kernel
theorem dX2_openFrame_5 : decode cX2_openFrame 5 = .ok (.invokestatic 121, 3) := by decide +kernel
theorem dX2_openFrame_8 : decode cX2_openFrame 8 = .ok (.bipush 11, 2) := by decide +kernel
theorem dX2_openFrame_10 : decode cX2_openFrame 10 = .ok (.invokestatic 127, 3) := by decide +kernel
theorem dX2_openFrame_13 : decode cX2_openFrame 13 = .ok (.istore_n 2, 1) := by decide +kernel
theorem dX2_openFrame_14 : decode cX2_openFrame 14 = .ok (.aload_n 0, 1) := by decide +kernel
theorem dX2_openFrame_15 : decode cX2_openFrame 15 = .ok (.getfield 11, 3) := by decide +kernel
theorem dX2_openFrame_18 : decode cX2_openFrame 18 = .ok (.iload_n 2, 1) := by decide +kernel
theorem dX2_openFrame_19 : decode cX2_openFrame 19 = .ok (.aaload, 1) := by decide +kernel
theorem dX2_openFrame_20 : decode cX2_openFrame 20 = .ok (.astore_n 3, 1) := by decide +kernel
theorem dX2_openFrame_21 : decode cX2_openFrame 21 = .ok (.aload_n 3, 1) := by decide +kernel
theorem dX2_openFrame_22 : decode cX2_openFrame 22 = .ok (.aload_n 1, 1) := by decide +kernel
theorem dX2_openFrame_23 : decode cX2_openFrame 23 = .ok (.aload_n 0, 1) := by decide +kernel
theorem dX2_openFrame_24 : decode cX2_openFrame 24 = .ok (.getfield 27, 3) := by decide +kernel
theorem dX2_openFrame_27 : decode cX2_openFrame 27 = .ok (.iconst 1, 1) := by decide +kernel
theorem dX2_openFrame_28 : decode cX2_openFrame 28 = .ok (.if_icmp .ne 17, 3) := by decide +kernel
theorem dX2_openFrame_31 : decode cX2_openFrame 31 = .ok (.aload_n 1, 1) := by decide +kernel
theorem dX2_openFrame_32 : decode cX2_openFrame 32 = .ok (.getfield 130, 3) := by decide +kernel
theorem dX2_openFrame_35 : decode cX2_openFrame 35 = .ok (.getfield 134, 3) := by decide +kernel
theorem dX2_openFrame_38 : decode cX2_openFrame 38 = .ok (.ifCond .eq 7, 3) := by decide +kernel
theorem dX2_openFrame_41 : decode cX2_openFrame 41 = .ok (.iconst 1, 1) := by decide +kernel
theorem dX2_openFrame_42 : decode cX2_openFrame 42 = .ok (.goto 4, 3) := by decide +kernel
theorem dX2_openFrame_45 : decode cX2_openFrame 45 = .ok (.iconst 0, 1) := by decide +kernel
theorem dX2_openFrame_46 : decode cX2_openFrame 46 = .ok (.invokevirtual 139, 3) := by decide +kernel
theorem dX2_openFrame_49 : decode cX2_openFrame 49 = .ok (.aload_n 0, 1) := by decide +kernel
theorem dX2_openFrame_50 : decode cX2_openFrame 50 = .ok (.iload_n 2, 1) := by decide +kernel
theorem dX2_openFrame_51 : decode cX2_openFrame 51 = .ok (.iconst 1, 1) := by decide +kernel
theorem dX2_openFrame_52 : decode cX2_openFrame 52 = .ok (.iadd, 1) := by decide +kernel
theorem dX2_openFrame_53 : decode cX2_openFrame 53 = .ok (.putfield 34, 3) := by decide +kernel
theorem dX2_openFrame_56 : decode cX2_openFrame 56 = .ok (.aload_n 0, 1) := by decide +kernel
theorem dX2_openFrame_57 : decode cX2_openFrame 57 = .ok (.getfield 67, 3) := by decide +kernel
theorem dX2_openFrame_60 : decode cX2_openFrame 60 = .ok (.aload_n 0, 1) := by decide +kernel
theorem dX2_openFrame_61 : decode cX2_openFrame 61 = .ok (.getfield 67, 3) := by decide +kernel
theorem dX2_openFrame_64 : decode cX2_openFrame 64 = .ok (.getfield 143, 3) := by decide +kernel
theorem dX2_openFrame_67 : decode cX2_openFrame 67 = .ok (.aload_n 0, 1) := by decide +kernel
theorem dX2_openFrame_68 : decode cX2_openFrame 68 = .ok (.getfield 34, 3) := by decide +kernel
theorem dX2_openFrame_71 : decode cX2_openFrame 71 = .ok (.invokestatic 121, 3) := by decide +kernel
theorem dX2_openFrame_74 : decode cX2_openFrame 74 = .ok (.putfield 143, 3) := by decide +kernel
theorem dX2_openFrame_77 : decode cX2_openFrame 77 = .ok (.aload_n 3, 1) := by decide +kernel
theorem dX2_openFrame_78 : decode cX2_openFrame 78 = .ok (.areturn, 1) := by decide +kernel
theorem dX2_takeTurn_0 : decode cX2_takeTurn 0 = .ok (.aload_n 1, 1) := by decide +kernel
theorem dX2_takeTurn_1 : decode cX2_takeTurn 1 = .ok (.invokevirtual 146, 3) := by decide +kernel
theorem dX2_takeTurn_4 : decode cX2_takeTurn 4 = .ok (.aload_n 1, 1) := by decide +kernel
theorem dX2_takeTurn_5 : decode cX2_takeTurn 5 = .ok (.getfield 150, 3) := by decide +kernel
theorem dX2_takeTurn_8 : decode cX2_takeTurn 8 = .ok (.invokestatic 153, 3) := by decide +kernel
theorem dX2_takeTurn_11 : decode cX2_takeTurn 11 = .ok (.istore_n 2, 1) := by decide +kernel
theorem dX2_takeTurn_12 : decode cX2_takeTurn 12 = .ok (.aload_n 0, 1) := by decide +kernel
theorem dX2_takeTurn_13 : decode cX2_takeTurn 13 = .ok (.aload_n 1, 1) := by decide +kernel
theorem dX2_takeTurn_14 : decode cX2_takeTurn 14 = .ok (.invokevirtual 157, 3) := by decide +kernel
theorem dX2_takeTurn_17 : decode cX2_takeTurn 17 = .ok (.putfield 56, 3) := by decide +kernel
theorem dX2_takeTurn_20 : decode cX2_takeTurn 20 = .ok (.aload_n 1, 1) := by decide +kernel
theorem dX2_takeTurn_21 : decode cX2_takeTurn 21 = .ok (.getfield 161, 3) := by decide +kernel
theorem dX2_takeTurn_24 : decode cX2_takeTurn 24 = .ok (.ifCond .eq 24, 3) := by decide +kernel
theorem dX2_takeTurn_27 : decode cX2_takeTurn 27 = .ok (.iload_n 2, 1) := by decide +kernel
theorem dX2_takeTurn_28 : decode cX2_takeTurn 28 = .ok (.bipush 48, 2) := by decide +kernel
theorem dX2_takeTurn_30 : decode cX2_takeTurn 30 = .ok (.if_icmp .lt 18, 3) := by decide +kernel
theorem dX2_takeTurn_33 : decode cX2_takeTurn 33 = .ok (.iload_n 2, 1) := by decide +kernel
theorem dX2_takeTurn_34 : decode cX2_takeTurn 34 = .ok (.bipush 58, 2) := by decide +kernel
theorem dX2_takeTurn_36 : decode cX2_takeTurn 36 = .ok (.if_icmp .gt 12, 3) := by decide +kernel
theorem dX2_takeTurn_39 : decode cX2_takeTurn 39 = .ok (.aload_n 0, 1) := by decide +kernel
theorem dX2_takeTurn_40 : decode cX2_takeTurn 40 = .ok (.aload_n 1, 1) := by decide +kernel
theorem dX2_takeTurn_41 : decode cX2_takeTurn 41 = .ok (.iload_n 2, 1) := by decide +kernel
theorem dX2_takeTurn_42 : decode cX2_takeTurn 42 = .ok (.invokevirtual 164, 3) := by decide +kernel
theorem dX2_takeTurn_45 : decode cX2_takeTurn 45 = .ok (.goto 89, 3) := by decide +kernel
theorem dX2_takeTurn_48 : decode cX2_takeTurn 48 = .ok (.aload_n 0, 1) := by decide +kernel
theorem dX2_takeTurn_49 : decode cX2_takeTurn 49 = .ok (.getfield 56, 3) := by decide +kernel
theorem dX2_takeTurn_52 : decode cX2_takeTurn 52 = .ok (.iconst (-1), 1) := by decide +kernel
theorem dX2_takeTurn_53 : decode cX2_takeTurn 53 = .ok (.if_icmp .ne 22, 3) := by decide +kernel
theorem dX2_takeTurn_56 : decode cX2_takeTurn 56 = .ok (.aload_n 1, 1) := by decide +kernel
theorem dX2_takeTurn_57 : decode cX2_takeTurn 57 = .ok (.aload_n 1, 1) := by decide +kernel
theorem dX2_takeTurn_58 : decode cX2_takeTurn 58 = .ok (.invokevirtual 146, 3) := by decide +kernel
theorem dX2_takeTurn_61 : decode cX2_takeTurn 61 = .ok (.aload_n 1, 1) := by decide +kernel
theorem dX2_takeTurn_62 : decode cX2_takeTurn 62 = .ok (.getfield 150, 3) := by decide +kernel
theorem dX2_takeTurn_65 : decode cX2_takeTurn 65 = .ok (.iconst 0, 1) := by decide +kernel
theorem dX2_takeTurn_66 : decode cX2_takeTurn 66 = .ok (.invokestatic 168, 3) := by decide +kernel
theorem dX2_takeTurn_69 : decode cX2_takeTurn 69 = .ok (.putfield 150, 3) := by decide +kernel
theorem dX2_takeTurn_72 : decode cX2_takeTurn 72 = .ok (.goto 62, 3) := by decide +kernel
theorem dX2_takeTurn_75 : decode cX2_takeTurn 75 = .ok (.aload_n 0, 1) := by decide +kernel
theorem dX2_takeTurn_76 : decode cX2_takeTurn 76 = .ok (.aload_n 1, 1) := by decide +kernel
theorem dX2_takeTurn_77 : decode cX2_takeTurn 77 = .ok (.iload_n 2, 1) := by decide +kernel
theorem dX2_takeTurn_78 : decode cX2_takeTurn 78 = .ok (.invokevirtual 172, 3) := by decide +kernel
theorem dX2_takeTurn_81 : decode cX2_takeTurn 81 = .ok (.ifCond .eq 53, 3) := by decide +kernel
theorem dX2_takeTurn_84 : decode cX2_takeTurn 84 = .ok (.aload_n 0, 1) := by decide +kernel
theorem dX2_takeTurn_85 : decode cX2_takeTurn 85 = .ok (.getfield 67, 3) := by decide +kernel
theorem dX2_takeTurn_88 : decode cX2_takeTurn 88 = .ok (.dup, 1) := by decide +kernel
theorem dX2_takeTurn_89 : decode cX2_takeTurn 89 = .ok (.getfield 176, 3) := by decide +kernel
theorem dX2_takeTurn_92 : decode cX2_takeTurn 92 = .ok (.iconst 1, 1) := by decide +kernel
theorem dX2_takeTurn_93 : decode cX2_takeTurn 93 = .ok (.iadd, 1) := by decide +kernel
theorem dX2_takeTurn_94 : decode cX2_takeTurn 94 = .ok (.putfield 176, 3) := by decide +kernel
theorem dX2_takeTurn_97 : decode cX2_takeTurn 97 = .ok (.iload_n 2, 1) := by decide +kernel
theorem dX2_takeTurn_98 : decode cX2_takeTurn 98 = .ok (.bipush 40, 2) := by decide +kernel
theorem dX2_takeTurn_100 : decode cX2_takeTurn 100 = .ok (.if_icmp .ne 11, 3) := by decide +kernel
theorem dX2_takeTurn_103 : decode cX2_takeTurn 103 = .ok (.aload_n 0, 1) := by decide +kernel
theorem dX2_takeTurn_104 : decode cX2_takeTurn 104 = .ok (.aload_n 1, 1) := by decide +kernel
theorem dX2_takeTurn_105 : decode cX2_takeTurn 105 = .ok (.invokevirtual 179, 3) := by decide +kernel
theorem dX2_takeTurn_108 : decode cX2_takeTurn 108 = .ok (.goto 26, 3) := by decide +kernel
theorem dX2_takeTurn_111 : decode cX2_takeTurn 111 = .ok (.iload_n 2, 1) := by decide +kernel
theorem dX2_takeTurn_112 : decode cX2_takeTurn 112 = .ok (.bipush 42, 2) := by decide +kernel
theorem dX2_takeTurn_114 : decode cX2_takeTurn 114 = .ok (.if_icmp .ne 11, 3) := by decide +kernel
theorem dX2_takeTurn_117 : decode cX2_takeTurn 117 = .ok (.aload_n 0, 1) := by decide +kernel
theorem dX2_takeTurn_118 : decode cX2_takeTurn 118 = .ok (.aload_n 1, 1) := by decide +kernel
theorem dX2_takeTurn_119 : decode cX2_takeTurn 119 = .ok (.invokevirtual 182, 3) := by decide +kernel
theorem dX2_takeTurn_122 : decode cX2_takeTurn 122 = .ok (.goto 12, 3) := by decide +kernel
theorem dX2_takeTurn_125 : decode cX2_takeTurn 125 = .ok (.aload_n 0, 1) := by decide +kernel
theorem dX2_takeTurn_126 : decode cX2_takeTurn 126 = .ok (.aload_n 1, 1) := by decide +kernel
theorem dX2_takeTurn_127 : decode cX2_takeTurn 127 = .ok (.iload_n 2, 1) := by decide +kernel
theorem dX2_takeTurn_128 : decode cX2_takeTurn 128 = .ok (.invokestatic 185, 3) := by decide +kernel
theorem dX2_takeTurn_131 : decode cX2_takeTurn 131 = .ok (.invokevirtual 189, 3) := by decide +kernel
theorem dX2_takeTurn_134 : decode cX2_takeTurn 134 = .ok (.aload_n 0, 1) := by decide +kernel
theorem dX2_takeTurn_135 : decode cX2_takeTurn 135 = .ok (.getfield 37, 3) := by decide +kernel
theorem dX2_takeTurn_138 : decode cX2_takeTurn 138 = .ok (.ifCond .eq 7, 3) := by decide +kernel
theorem dX2_takeTurn_141 : decode cX2_takeTurn 141 = .ok (.aload_n 0, 1) := by decide +kernel
theorem dX2_takeTurn_142 : decode cX2_takeTurn 142 = .ok (.invokevirtual 192, 3) := by decide +kernel
theorem dX2_takeTurn_145 : decode cX2_takeTurn 145 = .ok (.return_, 1) := by decide +kernel
theorem dX2_mayBegin_0 : decode cX2_mayBegin 0 = .ok (.aload_n 0, 1) := by decide +kernel
theorem dX2_mayBegin_1 : decode cX2_mayBegin 1 = .ok (.aload_n 1, 1) := by decide +kernel
theorem dX2_mayBegin_2 : decode cX2_mayBegin 2 = .ok (.invokevirtual 195, 3) := by decide +kernel
theorem dX2_mayBegin_5 : decode cX2_mayBegin 5 = .ok (.ifCond .eq 9, 3) := by decide +kernel
theorem dX2_mayBegin_8 : decode cX2_mayBegin 8 = .ok (.aload_n 0, 1) := by decide +kernel
theorem dX2_mayBegin_9 : decode cX2_mayBegin 9 = .ok (.aload_n 1, 1) := by decide +kernel
theorem dX2_mayBegin_10 : decode cX2_mayBegin 10 = .ok (.iload_n 2, 1) := by decide +kernel
theorem dX2_mayBegin_11 : decode cX2_mayBegin 11 = .ok (.invokevirtual 199, 3) := by decide +kernel
theorem dX2_mayBegin_14 : decode cX2_mayBegin 14 = .ok (.aload_n 0, 1) := by decide +kernel
theorem dX2_mayBegin_15 : decode cX2_mayBegin 15 = .ok (.getfield 37, 3) := by decide +kernel
theorem dX2_mayBegin_18 : decode cX2_mayBegin 18 = .ok (.ifCond .eq 5, 3) := by decide +kernel
theorem dX2_mayBegin_21 : decode cX2_mayBegin 21 = .ok (.iconst 0, 1) := by decide +kernel
theorem dX2_mayBegin_22 : decode cX2_mayBegin 22 = .ok (.ireturn, 1) := by decide +kernel
theorem dX2_mayBegin_23 : decode cX2_mayBegin 23 = .ok (.aload_n 0, 1) := by decide +kernel
theorem dX2_mayBegin_24 : decode cX2_mayBegin 24 = .ok (.getfield 67, 3) := by decide +kernel
theorem dX2_mayBegin_27 : decode cX2_mayBegin 27 = .ok (.getfield 176, 3) := by decide +kernel
theorem dX2_mayBegin_30 : decode cX2_mayBegin 30 = .ok (.aload_n 0, 1) := by decide +kernel
theorem dX2_mayBegin_31 : decode cX2_mayBegin 31 = .ok (.getfield 31, 3) := by decide +kernel
theorem dX2_mayBegin_34 : decode cX2_mayBegin 34 = .ok (.if_icmp .lt 13, 3) := by decide +kernel
theorem dX2_mayBegin_37 : decode cX2_mayBegin 37 = .ok (.aload_n 0, 1) := by decide +kernel
theorem dX2_mayBegin_38 : decode cX2_mayBegin 38 = .ok (.getfield 67, 3) := by decide +kernel
theorem dX2_mayBegin_41 : decode cX2_mayBegin 41 = .ok (.iconst 2, 1) := by decide +kernel
theorem dX2_mayBegin_42 : decode cX2_mayBegin 42 = .ok (.putfield 106, 3) := by decide +kernel
theorem dX2_mayBegin_45 : decode cX2_mayBegin 45 = .ok (.iconst 0, 1) := by decide +kernel
theorem dX2_mayBegin_46 : decode cX2_mayBegin 46 = .ok (.ireturn, 1) := by decide +kernel
theorem dX2_mayBegin_47 : decode cX2_mayBegin 47 = .ok (.iconst 1, 1) := by decide +kernel
theorem dX2_mayBegin_48 : decode cX2_mayBegin 48 = .ok (.ireturn, 1) := by decide +kernel
theorem dX2_doInstruction_0 : decode cX2_doInstruction 0 = .ok (.aload_n 1, 1) := by decide +kernel
theorem dX2_doInstruction_1 : decode cX2_doInstruction 1 = .ok (.getfield 150, 3) := by decide +kernel
theorem dX2_doInstruction_4 : decode cX2_doInstruction 4 = .ok (.aload_n 1, 1) := by decide +kernel
theorem dX2_doInstruction_5 : decode cX2_doInstruction 5 = .ok (.invokevirtual 146, 3) := by decide +kernel
theorem dX2_doInstruction_8 : decode cX2_doInstruction 8 = .ok (.aload_n 1, 1) := by decide +kernel
theorem dX2_doInstruction_9 : decode cX2_doInstruction 9 = .ok (.getfield 150, 3) := by decide +kernel
theorem dX2_doInstruction_12 : decode cX2_doInstruction 12 = .ok (.invokestatic 202, 3) := by decide +kernel
theorem dX2_doInstruction_15 : decode cX2_doInstruction 15 = .ok (.iadd, 1) := by decide +kernel
theorem dX2_doInstruction_16 : decode cX2_doInstruction 16 = .ok (.istore_n 3, 1) := by decide +kernel
theorem dX2_doInstruction_17 : decode cX2_doInstruction 17 = .ok (.iload_n 2, 1) := by decide +kernel
theorem dX2_doInstruction_18 : decode cX2_doInstruction 18 = .ok (.bipush 8, 2) := by decide +kernel
theorem dX2_doInstruction_20 : decode cX2_doInstruction 20 = .ok (.if_icmp .gt 12, 3) := by decide +kernel
theorem dX2_doInstruction_23 : decode cX2_doInstruction 23 = .ok (.aload_n 0, 1) := by decide +kernel
theorem dX2_doInstruction_24 : decode cX2_doInstruction 24 = .ok (.aload_n 1, 1) := by decide +kernel
theorem dX2_doInstruction_25 : decode cX2_doInstruction 25 = .ok (.iload_n 2, 1) := by decide +kernel
theorem dX2_doInstruction_26 : decode cX2_doInstruction 26 = .ok (.invokevirtual 205, 3) := by decide +kernel
theorem dX2_doInstruction_29 : decode cX2_doInstruction 29 = .ok (.goto 81, 3) := by decide +kernel
theorem dX2_doInstruction_32 : decode cX2_doInstruction 32 = .ok (.iload_n 2, 1) := by decide +kernel
theorem dX2_doInstruction_33 : decode cX2_doInstruction 33 = .ok (.bipush 19, 2) := by decide +kernel
theorem dX2_doInstruction_35 : decode cX2_doInstruction 35 = .ok (.if_icmp .gt 12, 3) := by decide +kernel
theorem dX2_doInstruction_38 : decode cX2_doInstruction 38 = .ok (.aload_n 0, 1) := by decide +kernel
theorem dX2_doInstruction_39 : decode cX2_doInstruction 39 = .ok (.aload_n 1, 1) := by decide +kernel
theorem dX2_doInstruction_40 : decode cX2_doInstruction 40 = .ok (.iload_n 2, 1) := by decide +kernel
theorem dX2_doInstruction_41 : decode cX2_doInstruction 41 = .ok (.invokevirtual 208, 3) := by decide +kernel
theorem dX2_doInstruction_44 : decode cX2_doInstruction 44 = .ok (.goto 66, 3) := by decide +kernel
theorem dX2_doInstruction_47 : decode cX2_doInstruction 47 = .ok (.iload_n 2, 1) := by decide +kernel
theorem dX2_doInstruction_48 : decode cX2_doInstruction 48 = .ok (.bipush 33, 2) := by decide +kernel
theorem dX2_doInstruction_50 : decode cX2_doInstruction 50 = .ok (.if_icmp .gt 14, 3) := by decide +kernel
theorem dX2_doInstruction_53 : decode cX2_doInstruction 53 = .ok (.aload_n 0, 1) := by decide +kernel
theorem dX2_doInstruction_54 : decode cX2_doInstruction 54 = .ok (.aload_n 1, 1) := by decide +kernel
theorem dX2_doInstruction_55 : decode cX2_doInstruction 55 = .ok (.iload_n 2, 1) := by decide +kernel
theorem dX2_doInstruction_56 : decode cX2_doInstruction 56 = .ok (.iload_n 3, 1) := by decide +kernel
theorem dX2_doInstruction_57 : decode cX2_doInstruction 57 = .ok (.invokevirtual 211, 3) := by decide +kernel
theorem dX2_doInstruction_60 : decode cX2_doInstruction 60 = .ok (.istore_n 3, 1) := by decide +kernel
theorem dX2_doInstruction_61 : decode cX2_doInstruction 61 = .ok (.goto 49, 3) := by decide +kernel
theorem dX2_doInstruction_64 : decode cX2_doInstruction 64 = .ok (.iload_n 2, 1) := by decide +kernel
theorem dX2_doInstruction_65 : decode cX2_doInstruction 65 = .ok (.bipush 41, 2) := by decide +kernel
theorem dX2_doInstruction_67 : decode cX2_doInstruction 67 = .ok (.if_icmp .ne 37, 3) := by decide +kernel
theorem dX2_doInstruction_70 : decode cX2_doInstruction 70 = .ok (.aload_n 1, 1) := by decide +kernel
theorem dX2_doInstruction_71 : decode cX2_doInstruction 71 = .ok (.invokevirtual 215, 3) := by decide +kernel
theorem dX2_doInstruction_74 : decode cX2_doInstruction 74 = .ok (.istore 4, 2) := by decide +kernel
theorem dX2_doInstruction_76 : decode cX2_doInstruction 76 = .ok (.aload_n 0, 1) := by decide +kernel
theorem dX2_doInstruction_77 : decode cX2_doInstruction 77 = .ok (.aload_n 1, 1) := by decide +kernel
theorem dX2_doInstruction_78 : decode cX2_doInstruction 78 = .ok (.iload 4, 2) := by decide +kernel
theorem dX2_doInstruction_80 : decode cX2_doInstruction 80 = .ok (.iconst 1, 1) := by decide +kernel
theorem dX2_doInstruction_81 : decode cX2_doInstruction 81 = .ok (.if_icmp .lt 15, 3) := by decide +kernel
theorem dX2_doInstruction_84 : decode cX2_doInstruction 84 = .ok (.iload 4, 2) := by decide +kernel
theorem dX2_doInstruction_86 : decode cX2_doInstruction 86 = .ok (.bipush 99, 2) := by decide +kernel
theorem dX2_doInstruction_88 : decode cX2_doInstruction 88 = .ok (.if_icmp .gt 8, 3) := by decide +kernel
theorem dX2_doInstruction_91 : decode cX2_doInstruction 91 = .ok (.iload 4, 2) := by decide +kernel
theorem dX2_doInstruction_93 : decode cX2_doInstruction 93 = .ok (.goto 5, 3) := by decide +kernel
theorem dX2_doInstruction_96 : decode cX2_doInstruction 96 = .ok (.bipush 100, 2) := by decide +kernel
theorem dX2_doInstruction_98 : decode cX2_doInstruction 98 = .ok (.invokevirtual 218, 3) := by decide +kernel
theorem dX2_doInstruction_101 : decode cX2_doInstruction 101 = .ok (.goto 9, 3) := by decide +kernel
theorem dX2_doInstruction_104 : decode cX2_doInstruction 104 = .ok (.aload_n 0, 1) := by decide +kernel
theorem dX2_doInstruction_105 : decode cX2_doInstruction 105 = .ok (.aload_n 1, 1) := by decide +kernel
theorem dX2_doInstruction_106 : decode cX2_doInstruction 106 = .ok (.iload_n 2, 1) := by decide +kernel
theorem dX2_doInstruction_107 : decode cX2_doInstruction 107 = .ok (.invokevirtual 221, 3) := by decide +kernel
theorem dX2_doInstruction_110 : decode cX2_doInstruction 110 = .ok (.aload_n 0, 1) := by decide +kernel
theorem dX2_doInstruction_111 : decode cX2_doInstruction 111 = .ok (.getfield 37, 3) := by decide +kernel
theorem dX2_doInstruction_114 : decode cX2_doInstruction 114 = .ok (.ifCond .ne 13, 3) := by decide +kernel
theorem dX2_doInstruction_117 : decode cX2_doInstruction 117 = .ok (.aload_n 0, 1) := by decide +kernel
theorem dX2_doInstruction_118 : decode cX2_doInstruction 118 = .ok (.aload_n 1, 1) := by decide +kernel
theorem dX2_doInstruction_119 : decode cX2_doInstruction 119 = .ok (.invokevirtual 224, 3) := by decide +kernel
theorem dX2_doInstruction_122 : decode cX2_doInstruction 122 = .ok (.aload_n 1, 1) := by decide +kernel
theorem dX2_doInstruction_123 : decode cX2_doInstruction 123 = .ok (.iload_n 3, 1) := by decide +kernel
theorem dX2_doInstruction_124 : decode cX2_doInstruction 124 = .ok (.putfield 150, 3) := by decide +kernel
theorem dX2_doInstruction_127 : decode cX2_doInstruction 127 = .ok (.return_, 1) := by decide +kernel
theorem dX2_doMove_0 : decode cX2_doMove 0 = .ok (.aload_n 1, 1) := by decide +kernel
theorem dX2_doMove_1 : decode cX2_doMove 1 = .ok (.invokevirtual 227, 3) := by decide +kernel
theorem dX2_doMove_4 : decode cX2_doMove 4 = .ok (.istore_n 3, 1) := by decide +kernel
theorem dX2_doMove_5 : decode cX2_doMove 5 = .ok (.iload_n 2, 1) := by decide +kernel
theorem dX2_doMove_6 : decode cX2_doMove 6 = .ok (.tableswitch 184 1 8 #[46, 66, 86, 98, 110, 137, 149, 157], 46) := by decide +kernel
theorem dX2_doMove_52 : decode cX2_doMove 52 = .ok (.aload_n 1, 1) := by decide +kernel
theorem dX2_doMove_53 : decode cX2_doMove 53 = .ok (.aload_n 1, 1) := by decide +kernel
theorem dX2_doMove_54 : decode cX2_doMove 54 = .ok (.invokevirtual 146, 3) := by decide +kernel
theorem dX2_doMove_57 : decode cX2_doMove 57 = .ok (.aload_n 1, 1) := by decide +kernel
theorem dX2_doMove_58 : decode cX2_doMove 58 = .ok (.getfield 150, 3) := by decide +kernel
theorem dX2_doMove_61 : decode cX2_doMove 61 = .ok (.iconst 1, 1) := by decide +kernel
theorem dX2_doMove_62 : decode cX2_doMove 62 = .ok (.iadd, 1) := by decide +kernel
theorem dX2_doMove_63 : decode cX2_doMove 63 = .ok (.invokestatic 230, 3) := by decide +kernel
theorem dX2_doMove_66 : decode cX2_doMove 66 = .ok (.invokevirtual 233, 3) := by decide +kernel
theorem dX2_doMove_69 : decode cX2_doMove 69 = .ok (.goto 121, 3) := by decide +kernel
theorem dX2_doMove_72 : decode cX2_doMove 72 = .ok (.aload_n 1, 1) := by decide +kernel
theorem dX2_doMove_73 : decode cX2_doMove 73 = .ok (.aload_n 1, 1) := by decide +kernel
theorem dX2_doMove_74 : decode cX2_doMove 74 = .ok (.invokevirtual 146, 3) := by decide +kernel
theorem dX2_doMove_77 : decode cX2_doMove 77 = .ok (.aload_n 1, 1) := by decide +kernel
theorem dX2_doMove_78 : decode cX2_doMove 78 = .ok (.getfield 150, 3) := by decide +kernel
theorem dX2_doMove_81 : decode cX2_doMove 81 = .ok (.iconst 1, 1) := by decide +kernel
theorem dX2_doMove_82 : decode cX2_doMove 82 = .ok (.iadd, 1) := by decide +kernel
theorem dX2_doMove_83 : decode cX2_doMove 83 = .ok (.invokestatic 237, 3) := by decide +kernel
theorem dX2_doMove_86 : decode cX2_doMove 86 = .ok (.invokevirtual 233, 3) := by decide +kernel
theorem dX2_doMove_89 : decode cX2_doMove 89 = .ok (.goto 101, 3) := by decide +kernel
theorem dX2_doMove_92 : decode cX2_doMove 92 = .ok (.aload_n 1, 1) := by decide +kernel
theorem dX2_doMove_93 : decode cX2_doMove 93 = .ok (.aload_n 1, 1) := by decide +kernel
theorem dX2_doMove_94 : decode cX2_doMove 94 = .ok (.iload_n 3, 1) := by decide +kernel
theorem dX2_doMove_95 : decode cX2_doMove 95 = .ok (.invokevirtual 240, 3) := by decide +kernel
theorem dX2_doMove_98 : decode cX2_doMove 98 = .ok (.invokevirtual 233, 3) := by decide +kernel
theorem dX2_doMove_101 : decode cX2_doMove 101 = .ok (.goto 89, 3) := by decide +kernel
theorem dX2_doMove_104 : decode cX2_doMove 104 = .ok (.aload_n 1, 1) := by decide +kernel
theorem dX2_doMove_105 : decode cX2_doMove 105 = .ok (.iload_n 3, 1) := by decide +kernel
theorem dX2_doMove_106 : decode cX2_doMove 106 = .ok (.aload_n 1, 1) := by decide +kernel
theorem dX2_doMove_107 : decode cX2_doMove 107 = .ok (.invokevirtual 215, 3) := by decide +kernel
theorem dX2_doMove_110 : decode cX2_doMove 110 = .ok (.invokevirtual 97, 3) := by decide +kernel
theorem dX2_doMove_113 : decode cX2_doMove 113 = .ok (.goto 77, 3) := by decide +kernel
theorem dX2_doMove_116 : decode cX2_doMove 116 = .ok (.aload_n 1, 1) := by decide +kernel
theorem dX2_doMove_117 : decode cX2_doMove 117 = .ok (.iload_n 3, 1) := by decide +kernel
theorem dX2_doMove_118 : decode cX2_doMove 118 = .ok (.aload_n 1, 1) := by decide +kernel
theorem dX2_doMove_119 : decode cX2_doMove 119 = .ok (.iload_n 3, 1) := by decide +kernel
theorem dX2_doMove_120 : decode cX2_doMove 120 = .ok (.invokevirtual 240, 3) := by decide +kernel
theorem dX2_doMove_123 : decode cX2_doMove 123 = .ok (.aload_n 1, 1) := by decide +kernel
theorem dX2_doMove_124 : decode cX2_doMove 124 = .ok (.invokevirtual 146, 3) := by decide +kernel
theorem dX2_doMove_127 : decode cX2_doMove 127 = .ok (.aload_n 1, 1) := by decide +kernel
theorem dX2_doMove_128 : decode cX2_doMove 128 = .ok (.getfield 150, 3) := by decide +kernel
theorem dX2_doMove_131 : decode cX2_doMove 131 = .ok (.iconst 2, 1) := by decide +kernel
theorem dX2_doMove_132 : decode cX2_doMove 132 = .ok (.iadd, 1) := by decide +kernel
theorem dX2_doMove_133 : decode cX2_doMove 133 = .ok (.invokestatic 230, 3) := by decide +kernel
theorem dX2_doMove_136 : decode cX2_doMove 136 = .ok (.iadd, 1) := by decide +kernel
theorem dX2_doMove_137 : decode cX2_doMove 137 = .ok (.invokevirtual 97, 3) := by decide +kernel
theorem dX2_doMove_140 : decode cX2_doMove 140 = .ok (.goto 50, 3) := by decide +kernel
theorem dX2_doMove_143 : decode cX2_doMove 143 = .ok (.aload_n 1, 1) := by decide +kernel
theorem dX2_doMove_144 : decode cX2_doMove 144 = .ok (.aload_n 1, 1) := by decide +kernel
theorem dX2_doMove_145 : decode cX2_doMove 145 = .ok (.iconst 0, 1) := by decide +kernel
theorem dX2_doMove_146 : decode cX2_doMove 146 = .ok (.invokevirtual 243, 3) := by decide +kernel
theorem dX2_doMove_149 : decode cX2_doMove 149 = .ok (.invokevirtual 233, 3) := by decide +kernel
theorem dX2_doMove_152 : decode cX2_doMove 152 = .ok (.goto 38, 3) := by decide +kernel
theorem dX2_doMove_155 : decode cX2_doMove 155 = .ok (.aload_n 1, 1) := by decide +kernel
theorem dX2_doMove_156 : decode cX2_doMove 156 = .ok (.invokevirtual 215, 3) := by decide +kernel
theorem dX2_doMove_159 : decode cX2_doMove 159 = .ok (.pop, 1) := by decide +kernel
theorem dX2_doMove_160 : decode cX2_doMove 160 = .ok (.goto 30, 3) := by decide +kernel
theorem dX2_doMove_163 : decode cX2_doMove 163 = .ok (.aload_n 1, 1) := by decide +kernel
theorem dX2_doMove_164 : decode cX2_doMove 164 = .ok (.invokevirtual 215, 3) := by decide +kernel
theorem dX2_doMove_167 : decode cX2_doMove 167 = .ok (.istore 4, 2) := by decide +kernel
theorem dX2_doMove_169 : decode cX2_doMove 169 = .ok (.aload_n 1, 1) := by decide +kernel
theorem dX2_doMove_170 : decode cX2_doMove 170 = .ok (.invokevirtual 215, 3) := by decide +kernel
theorem dX2_doMove_173 : decode cX2_doMove 173 = .ok (.istore 5, 2) := by decide +kernel
theorem dX2_doMove_175 : decode cX2_doMove 175 = .ok (.aload_n 1, 1) := by decide +kernel
theorem dX2_doMove_176 : decode cX2_doMove 176 = .ok (.iload 4, 2) := by decide +kernel
theorem dX2_doMove_178 : decode cX2_doMove 178 = .ok (.invokevirtual 233, 3) := by decide +kernel
theorem dX2_doMove_181 : decode cX2_doMove 181 = .ok (.aload_n 1, 1) := by decide +kernel
theorem dX2_doMove_182 : decode cX2_doMove 182 = .ok (.iload 5, 2) := by decide +kernel
theorem dX2_doMove_184 : decode cX2_doMove 184 = .ok (.invokevirtual 233, 3) := by decide +kernel
theorem dX2_doMove_187 : decode cX2_doMove 187 = .ok (.goto 3, 3) := by decide +kernel
theorem dX2_doMove_190 : decode cX2_doMove 190 = .ok (.return_, 1) := by decide +kernel
theorem dX2_doSum_0 : decode cX2_doSum 0 = .ok (.aload_n 1, 1) := by decide +kernel
theorem dX2_doSum_1 : decode cX2_doSum 1 = .ok (.invokevirtual 215, 3) := by decide +kernel
theorem dX2_doSum_4 : decode cX2_doSum 4 = .ok (.istore_n 3, 1) := by decide +kernel
theorem dX2_doSum_5 : decode cX2_doSum 5 = .ok (.iload_n 2, 1) := by decide +kernel
theorem dX2_doSum_6 : decode cX2_doSum 6 = .ok (.bipush 19, 2) := by decide +kernel
theorem dX2_doSum_8 : decode cX2_doSum 8 = .ok (.if_icmp .ne 10, 3) := by decide +kernel
theorem dX2_doSum_11 : decode cX2_doSum 11 = .ok (.aload_n 1, 1) := by decide +kernel
theorem dX2_doSum_12 : decode cX2_doSum 12 = .ok (.iload_n 3, 1) := by decide +kernel
theorem dX2_doSum_13 : decode cX2_doSum 13 = .ok (.ineg, 1) := by decide +kernel
theorem dX2_doSum_14 : decode cX2_doSum 14 = .ok (.invokevirtual 233, 3) := by decide +kernel
theorem dX2_doSum_17 : decode cX2_doSum 17 = .ok (.return_, 1) := by decide +kernel
theorem dX2_doSum_18 : decode cX2_doSum 18 = .ok (.aload_n 1, 1) := by decide +kernel
theorem dX2_doSum_19 : decode cX2_doSum 19 = .ok (.invokevirtual 215, 3) := by decide +kernel
theorem dX2_doSum_22 : decode cX2_doSum 22 = .ok (.istore 4, 2) := by decide +kernel
theorem dX2_doSum_24 : decode cX2_doSum 24 = .ok (.iload_n 2, 1) := by decide +kernel
theorem dX2_doSum_25 : decode cX2_doSum 25 = .ok (.bipush 12, 2) := by decide +kernel
theorem dX2_doSum_27 : decode cX2_doSum 27 = .ok (.if_icmp .eq 23, 3) := by decide +kernel
theorem dX2_doSum_30 : decode cX2_doSum 30 = .ok (.iload_n 2, 1) := by decide +kernel
theorem dX2_doSum_31 : decode cX2_doSum 31 = .ok (.bipush 13, 2) := by decide +kernel
theorem dX2_doSum_33 : decode cX2_doSum 33 = .ok (.if_icmp .eq 17, 3) := by decide +kernel
theorem dX2_doSum_36 : decode cX2_doSum 36 = .ok (.aload_n 1, 1) := by decide +kernel
theorem dX2_doSum_37 : decode cX2_doSum 37 = .ok (.iload_n 2, 1) := by decide +kernel
theorem dX2_doSum_38 : decode cX2_doSum 38 = .ok (.iload 4, 2) := by decide +kernel
theorem dX2_doSum_40 : decode cX2_doSum 40 = .ok (.iload_n 3, 1) := by decide +kernel
theorem dX2_doSum_41 : decode cX2_doSum 41 = .ok (.invokestatic 246, 3) := by decide +kernel
theorem dX2_doSum_44 : decode cX2_doSum 44 = .ok (.invokevirtual 233, 3) := by decide +kernel
theorem dX2_doSum_47 : decode cX2_doSum 47 = .ok (.goto 38, 3) := by decide +kernel
theorem dX2_doSum_50 : decode cX2_doSum 50 = .ok (.iload_n 3, 1) := by decide +kernel
theorem dX2_doSum_51 : decode cX2_doSum 51 = .ok (.ifCond .ne 13, 3) := by decide +kernel
theorem dX2_doSum_54 : decode cX2_doSum 54 = .ok (.aload_n 0, 1) := by decide +kernel
theorem dX2_doSum_55 : decode cX2_doSum 55 = .ok (.aload_n 1, 1) := by decide +kernel
theorem dX2_doSum_56 : decode cX2_doSum 56 = .ok (.bipush 101, 2) := by decide +kernel
theorem dX2_doSum_58 : decode cX2_doSum 58 = .ok (.invokevirtual 218, 3) := by decide +kernel
theorem dX2_doSum_61 : decode cX2_doSum 61 = .ok (.goto 24, 3) := by decide +kernel
theorem dX2_doSum_64 : decode cX2_doSum 64 = .ok (.aload_n 1, 1) := by decide +kernel
theorem dX2_doSum_65 : decode cX2_doSum 65 = .ok (.iload_n 2, 1) := by decide +kernel
theorem dX2_doSum_66 : decode cX2_doSum 66 = .ok (.bipush 12, 2) := by decide +kernel
theorem dX2_doSum_68 : decode cX2_doSum 68 = .ok (.if_icmp .ne 10, 3) := by decide +kernel
theorem dX2_doSum_71 : decode cX2_doSum 71 = .ok (.iload 4, 2) := by decide +kernel
theorem dX2_doSum_73 : decode cX2_doSum 73 = .ok (.iload_n 3, 1) := by decide +kernel
theorem dX2_doSum_74 : decode cX2_doSum 74 = .ok (.idiv, 1) := by decide +kernel
theorem dX2_doSum_75 : decode cX2_doSum 75 = .ok (.goto 7, 3) := by decide +kernel
theorem dX2_doSum_78 : decode cX2_doSum 78 = .ok (.iload 4, 2) := by decide +kernel
theorem dX2_doSum_80 : decode cX2_doSum 80 = .ok (.iload_n 3, 1) := by decide +kernel
theorem dX2_doSum_81 : decode cX2_doSum 81 = .ok (.irem, 1) := by decide +kernel
theorem dX2_doSum_82 : decode cX2_doSum 82 = .ok (.invokevirtual 233, 3) := by decide +kernel
theorem dX2_doSum_85 : decode cX2_doSum 85 = .ok (.return_, 1) := by decide +kernel
theorem dX2_sum_0 : decode cX2_sum 0 = .ok (.iload_n 0, 1) := by decide +kernel
theorem dX2_sum_1 : decode cX2_sum 1 = .ok (.tableswitch 93 9 18 #[55, 59, 63, 93, 93, 67, 71, 75, 79, 86], 55) := by decide +kernel
theorem dX2_sum_56 : decode cX2_sum 56 = .ok (.iload_n 1, 1) := by decide +kernel
theorem dX2_sum_57 : decode cX2_sum 57 = .ok (.iload_n 2, 1) := by decide +kernel
theorem dX2_sum_58 : decode cX2_sum 58 = .ok (.iadd, 1) := by decide +kernel
theorem dX2_sum_59 : decode cX2_sum 59 = .ok (.ireturn, 1) := by decide +kernel
theorem dX2_sum_60 : decode cX2_sum 60 = .ok (.iload_n 1, 1) := by decide +kernel
theorem dX2_sum_61 : decode cX2_sum 61 = .ok (.iload_n 2, 1) := by decide +kernel
theorem dX2_sum_62 : decode cX2_sum 62 = .ok (.isub, 1) := by decide +kernel
theorem dX2_sum_63 : decode cX2_sum 63 = .ok (.ireturn, 1) := by decide +kernel
theorem dX2_sum_64 : decode cX2_sum 64 = .ok (.iload_n 1, 1) := by decide +kernel
theorem dX2_sum_65 : decode cX2_sum 65 = .ok (.iload_n 2, 1) := by decide +kernel
theorem dX2_sum_66 : decode cX2_sum 66 = .ok (.imul, 1) := by decide +kernel
theorem dX2_sum_67 : decode cX2_sum 67 = .ok (.ireturn, 1) := by decide +kernel
theorem dX2_sum_68 : decode cX2_sum 68 = .ok (.iload_n 1, 1) := by decide +kernel
theorem dX2_sum_69 : decode cX2_sum 69 = .ok (.iload_n 2, 1) := by decide +kernel
theorem dX2_sum_70 : decode cX2_sum 70 = .ok (.iand, 1) := by decide +kernel
theorem dX2_sum_71 : decode cX2_sum 71 = .ok (.ireturn, 1) := by decide +kernel
theorem dX2_sum_72 : decode cX2_sum 72 = .ok (.iload_n 1, 1) := by decide +kernel
theorem dX2_sum_73 : decode cX2_sum 73 = .ok (.iload_n 2, 1) := by decide +kernel
theorem dX2_sum_74 : decode cX2_sum 74 = .ok (.ior, 1) := by decide +kernel
theorem dX2_sum_75 : decode cX2_sum 75 = .ok (.ireturn, 1) := by decide +kernel
theorem dX2_sum_76 : decode cX2_sum 76 = .ok (.iload_n 1, 1) := by decide +kernel
theorem dX2_sum_77 : decode cX2_sum 77 = .ok (.iload_n 2, 1) := by decide +kernel
theorem dX2_sum_78 : decode cX2_sum 78 = .ok (.ixor, 1) := by decide +kernel
theorem dX2_sum_79 : decode cX2_sum 79 = .ok (.ireturn, 1) := by decide +kernel
theorem dX2_sum_80 : decode cX2_sum 80 = .ok (.iload_n 1, 1) := by decide +kernel
theorem dX2_sum_81 : decode cX2_sum 81 = .ok (.iload_n 2, 1) := by decide +kernel
theorem dX2_sum_82 : decode cX2_sum 82 = .ok (.bipush 31, 2) := by decide +kernel
theorem dX2_sum_84 : decode cX2_sum 84 = .ok (.iand, 1) := by decide +kernel
theorem dX2_sum_85 : decode cX2_sum 85 = .ok (.ishl, 1) := by decide +kernel
theorem dX2_sum_86 : decode cX2_sum 86 = .ok (.ireturn, 1) := by decide +kernel
theorem dX2_sum_87 : decode cX2_sum 87 = .ok (.iload_n 1, 1) := by decide +kernel
theorem dX2_sum_88 : decode cX2_sum 88 = .ok (.iload_n 2, 1) := by decide +kernel
theorem dX2_sum_89 : decode cX2_sum 89 = .ok (.bipush 31, 2) := by decide +kernel
theorem dX2_sum_91 : decode cX2_sum 91 = .ok (.iand, 1) := by decide +kernel
theorem dX2_sum_92 : decode cX2_sum 92 = .ok (.ishr, 1) := by decide +kernel
theorem dX2_sum_93 : decode cX2_sum 93 = .ok (.ireturn, 1) := by decide +kernel
theorem dX2_sum_94 : decode cX2_sum 94 = .ok (.iconst 0, 1) := by decide +kernel
theorem dX2_sum_95 : decode cX2_sum 95 = .ok (.ireturn, 1) := by decide +kernel
theorem dX2_whereJumped_0 : decode cX2_whereJumped 0 = .ok (.aload_n 1, 1) := by decide +kernel
theorem dX2_whereJumped_1 : decode cX2_whereJumped 1 = .ok (.invokevirtual 146, 3) := by decide +kernel
theorem dX2_whereJumped_4 : decode cX2_whereJumped 4 = .ok (.astore 4, 2) := by decide +kernel
theorem dX2_whereJumped_6 : decode cX2_whereJumped 6 = .ok (.iload_n 2, 1) := by decide +kernel
theorem dX2_whereJumped_7 : decode cX2_whereJumped 7 = .ok (.bipush 33, 2) := by decide +kernel
theorem dX2_whereJumped_9 : decode cX2_whereJumped 9 = .ok (.if_icmp .ne 53, 3) := by decide +kernel
theorem dX2_whereJumped_12 : decode cX2_whereJumped 12 = .ok (.aload_n 1, 1) := by decide +kernel
theorem dX2_whereJumped_13 : decode cX2_whereJumped 13 = .ok (.invokevirtual 215, 3) := by decide +kernel
theorem dX2_whereJumped_16 : decode cX2_whereJumped 16 = .ok (.istore 5, 2) := by decide +kernel
theorem dX2_whereJumped_18 : decode cX2_whereJumped 18 = .ok (.iload 5, 2) := by decide +kernel
theorem dX2_whereJumped_20 : decode cX2_whereJumped 20 = .ok (.ifCond .lt 16, 3) := by decide +kernel
theorem dX2_whereJumped_23 : decode cX2_whereJumped 23 = .ok (.iload 5, 2) := by decide +kernel
theorem dX2_whereJumped_25 : decode cX2_whereJumped 25 = .ok (.aload_n 1, 1) := by decide +kernel
theorem dX2_whereJumped_26 : decode cX2_whereJumped 26 = .ok (.invokevirtual 227, 3) := by decide +kernel
theorem dX2_whereJumped_29 : decode cX2_whereJumped 29 = .ok (.if_icmp .ge 7, 3) := by decide +kernel
theorem dX2_whereJumped_32 : decode cX2_whereJumped 32 = .ok (.iconst 1, 1) := by decide +kernel
theorem dX2_whereJumped_33 : decode cX2_whereJumped 33 = .ok (.goto 4, 3) := by decide +kernel
theorem dX2_whereJumped_36 : decode cX2_whereJumped 36 = .ok (.iconst 0, 1) := by decide +kernel
theorem dX2_whereJumped_37 : decode cX2_whereJumped 37 = .ok (.istore 6, 2) := by decide +kernel
theorem dX2_whereJumped_39 : decode cX2_whereJumped 39 = .ok (.aload 4, 2) := by decide +kernel
theorem dX2_whereJumped_41 : decode cX2_whereJumped 41 = .ok (.aload_n 1, 1) := by decide +kernel
theorem dX2_whereJumped_42 : decode cX2_whereJumped 42 = .ok (.getfield 150, 3) := by decide +kernel
theorem dX2_whereJumped_45 : decode cX2_whereJumped 45 = .ok (.iload 6, 2) := by decide +kernel
theorem dX2_whereJumped_47 : decode cX2_whereJumped 47 = .ok (.ifCond .eq 10, 3) := by decide +kernel
theorem dX2_whereJumped_50 : decode cX2_whereJumped 50 = .ok (.iload 5, 2) := by decide +kernel
theorem dX2_whereJumped_52 : decode cX2_whereJumped 52 = .ok (.iconst 1, 1) := by decide +kernel
theorem dX2_whereJumped_53 : decode cX2_whereJumped 53 = .ok (.iadd, 1) := by decide +kernel
theorem dX2_whereJumped_54 : decode cX2_whereJumped 54 = .ok (.goto 4, 3) := by decide +kernel
theorem dX2_whereJumped_57 : decode cX2_whereJumped 57 = .ok (.iconst 0, 1) := by decide +kernel
theorem dX2_whereJumped_58 : decode cX2_whereJumped 58 = .ok (.invokestatic 168, 3) := by decide +kernel
theorem dX2_whereJumped_61 : decode cX2_whereJumped 61 = .ok (.ireturn, 1) := by decide +kernel
theorem dX2_whereJumped_62 : decode cX2_whereJumped 62 = .ok (.aload_n 0, 1) := by decide +kernel
theorem dX2_whereJumped_63 : decode cX2_whereJumped 63 = .ok (.iload_n 2, 1) := by decide +kernel
theorem dX2_whereJumped_64 : decode cX2_whereJumped 64 = .ok (.bipush 20, 2) := by decide +kernel
theorem dX2_whereJumped_66 : decode cX2_whereJumped 66 = .ok (.if_icmp .eq 11, 3) := by decide +kernel
theorem dX2_whereJumped_69 : decode cX2_whereJumped 69 = .ok (.aload_n 1, 1) := by decide +kernel
theorem dX2_whereJumped_70 : decode cX2_whereJumped 70 = .ok (.iload_n 2, 1) := by decide +kernel
theorem dX2_whereJumped_71 : decode cX2_whereJumped 71 = .ok (.invokestatic 250, 3) := by decide +kernel
theorem dX2_whereJumped_74 : decode cX2_whereJumped 74 = .ok (.ifCond .eq 7, 3) := by decide +kernel
theorem dX2_whereJumped_77 : decode cX2_whereJumped 77 = .ok (.iconst 1, 1) := by decide +kernel
theorem dX2_whereJumped_78 : decode cX2_whereJumped 78 = .ok (.goto 4, 3) := by decide +kernel
theorem dX2_whereJumped_81 : decode cX2_whereJumped 81 = .ok (.iconst 0, 1) := by decide +kernel
theorem dX2_whereJumped_82 : decode cX2_whereJumped 82 = .ok (.putfield 52, 3) := by decide +kernel
theorem dX2_whereJumped_85 : decode cX2_whereJumped 85 = .ok (.aload_n 0, 1) := by decide +kernel
theorem dX2_whereJumped_86 : decode cX2_whereJumped 86 = .ok (.getfield 52, 3) := by decide +kernel
theorem dX2_whereJumped_89 : decode cX2_whereJumped 89 = .ok (.ifCond .eq 16, 3) := by decide +kernel
theorem dX2_whereJumped_92 : decode cX2_whereJumped 92 = .ok (.aload 4, 2) := by decide +kernel
theorem dX2_whereJumped_94 : decode cX2_whereJumped 94 = .ok (.aload_n 1, 1) := by decide +kernel
theorem dX2_whereJumped_95 : decode cX2_whereJumped 95 = .ok (.getfield 150, 3) := by decide +kernel
theorem dX2_whereJumped_98 : decode cX2_whereJumped 98 = .ok (.iconst 0, 1) := by decide +kernel
theorem dX2_whereJumped_99 : decode cX2_whereJumped 99 = .ok (.invokestatic 168, 3) := by decide +kernel
theorem dX2_whereJumped_102 : decode cX2_whereJumped 102 = .ok (.goto 4, 3) := by decide +kernel
theorem dX2_whereJumped_105 : decode cX2_whereJumped 105 = .ok (.iload_n 3, 1) := by decide +kernel
theorem dX2_whereJumped_106 : decode cX2_whereJumped 106 = .ok (.ireturn, 1) := by decide +kernel
theorem dX2_choosesJump_0 : decode cX2_choosesJump 0 = .ok (.iload_n 1, 1) := by decide +kernel
theorem dX2_choosesJump_1 : decode cX2_choosesJump 1 = .ok (.bipush 27, 2) := by decide +kernel
theorem dX2_choosesJump_3 : decode cX2_choosesJump 3 = .ok (.if_icmp .lt 7, 3) := by decide +kernel
theorem dX2_choosesJump_6 : decode cX2_choosesJump 6 = .ok (.iconst 1, 1) := by decide +kernel
theorem dX2_choosesJump_7 : decode cX2_choosesJump 7 = .ok (.goto 4, 3) := by decide +kernel
theorem dX2_choosesJump_10 : decode cX2_choosesJump 10 = .ok (.iconst 0, 1) := by decide +kernel
theorem dX2_choosesJump_11 : decode cX2_choosesJump 11 = .ok (.istore_n 2, 1) := by decide +kernel
theorem dX2_choosesJump_12 : decode cX2_choosesJump 12 = .ok (.iload_n 2, 1) := by decide +kernel
theorem dX2_choosesJump_13 : decode cX2_choosesJump 13 = .ok (.ifCond .eq 10, 3) := by decide +kernel
theorem dX2_choosesJump_16 : decode cX2_choosesJump 16 = .ok (.aload_n 0, 1) := by decide +kernel
theorem dX2_choosesJump_17 : decode cX2_choosesJump 17 = .ok (.invokevirtual 215, 3) := by decide +kernel
theorem dX2_choosesJump_20 : decode cX2_choosesJump 20 = .ok (.goto 4, 3) := by decide +kernel
theorem dX2_choosesJump_23 : decode cX2_choosesJump 23 = .ok (.iconst 0, 1) := by decide +kernel
theorem dX2_choosesJump_24 : decode cX2_choosesJump 24 = .ok (.istore_n 3, 1) := by decide +kernel
theorem dX2_choosesJump_25 : decode cX2_choosesJump 25 = .ok (.aload_n 0, 1) := by decide +kernel
theorem dX2_choosesJump_26 : decode cX2_choosesJump 26 = .ok (.invokevirtual 215, 3) := by decide +kernel
theorem dX2_choosesJump_29 : decode cX2_choosesJump 29 = .ok (.istore 4, 2) := by decide +kernel
theorem dX2_choosesJump_31 : decode cX2_choosesJump 31 = .ok (.iload_n 2, 1) := by decide +kernel
theorem dX2_choosesJump_32 : decode cX2_choosesJump 32 = .ok (.ifCond .eq 10, 3) := by decide +kernel
theorem dX2_choosesJump_35 : decode cX2_choosesJump 35 = .ok (.iload_n 1, 1) := by decide +kernel
theorem dX2_choosesJump_36 : decode cX2_choosesJump 36 = .ok (.bipush 27, 2) := by decide +kernel
theorem dX2_choosesJump_38 : decode cX2_choosesJump 38 = .ok (.isub, 1) := by decide +kernel
theorem dX2_choosesJump_39 : decode cX2_choosesJump 39 = .ok (.goto 7, 3) := by decide +kernel
theorem dX2_choosesJump_42 : decode cX2_choosesJump 42 = .ok (.iload_n 1, 1) := by decide +kernel
theorem dX2_choosesJump_43 : decode cX2_choosesJump 43 = .ok (.bipush 21, 2) := by decide +kernel
theorem dX2_choosesJump_45 : decode cX2_choosesJump 45 = .ok (.isub, 1) := by decide +kernel
theorem dX2_choosesJump_46 : decode cX2_choosesJump 46 = .ok (.tableswitch 94 0 4 #[34, 46, 58, 70, 82], 34) := by decide +kernel
theorem dX2_choosesJump_80 : decode cX2_choosesJump 80 = .ok (.iload 4, 2) := by decide +kernel
theorem dX2_choosesJump_82 : decode cX2_choosesJump 82 = .ok (.iload_n 3, 1) := by decide +kernel
theorem dX2_choosesJump_83 : decode cX2_choosesJump 83 = .ok (.if_icmp .ne 7, 3) := by decide +kernel
theorem dX2_choosesJump_86 : decode cX2_choosesJump 86 = .ok (.iconst 1, 1) := by decide +kernel
theorem dX2_choosesJump_87 : decode cX2_choosesJump 87 = .ok (.goto 4, 3) := by decide +kernel
theorem dX2_choosesJump_90 : decode cX2_choosesJump 90 = .ok (.iconst 0, 1) := by decide +kernel
theorem dX2_choosesJump_91 : decode cX2_choosesJump 91 = .ok (.ireturn, 1) := by decide +kernel
theorem dX2_choosesJump_92 : decode cX2_choosesJump 92 = .ok (.iload 4, 2) := by decide +kernel
theorem dX2_choosesJump_94 : decode cX2_choosesJump 94 = .ok (.iload_n 3, 1) := by decide +kernel
theorem dX2_choosesJump_95 : decode cX2_choosesJump 95 = .ok (.if_icmp .eq 7, 3) := by decide +kernel
theorem dX2_choosesJump_98 : decode cX2_choosesJump 98 = .ok (.iconst 1, 1) := by decide +kernel
theorem dX2_choosesJump_99 : decode cX2_choosesJump 99 = .ok (.goto 4, 3) := by decide +kernel
theorem dX2_choosesJump_102 : decode cX2_choosesJump 102 = .ok (.iconst 0, 1) := by decide +kernel
theorem dX2_choosesJump_103 : decode cX2_choosesJump 103 = .ok (.ireturn, 1) := by decide +kernel
theorem dX2_choosesJump_104 : decode cX2_choosesJump 104 = .ok (.iload 4, 2) := by decide +kernel
theorem dX2_choosesJump_106 : decode cX2_choosesJump 106 = .ok (.iload_n 3, 1) := by decide +kernel
theorem dX2_choosesJump_107 : decode cX2_choosesJump 107 = .ok (.if_icmp .ge 7, 3) := by decide +kernel
theorem dX2_choosesJump_110 : decode cX2_choosesJump 110 = .ok (.iconst 1, 1) := by decide +kernel
theorem dX2_choosesJump_111 : decode cX2_choosesJump 111 = .ok (.goto 4, 3) := by decide +kernel
theorem dX2_choosesJump_114 : decode cX2_choosesJump 114 = .ok (.iconst 0, 1) := by decide +kernel
theorem dX2_choosesJump_115 : decode cX2_choosesJump 115 = .ok (.ireturn, 1) := by decide +kernel
theorem dX2_choosesJump_116 : decode cX2_choosesJump 116 = .ok (.iload 4, 2) := by decide +kernel
theorem dX2_choosesJump_118 : decode cX2_choosesJump 118 = .ok (.iload_n 3, 1) := by decide +kernel
theorem dX2_choosesJump_119 : decode cX2_choosesJump 119 = .ok (.if_icmp .lt 7, 3) := by decide +kernel
theorem dX2_choosesJump_122 : decode cX2_choosesJump 122 = .ok (.iconst 1, 1) := by decide +kernel
theorem dX2_choosesJump_123 : decode cX2_choosesJump 123 = .ok (.goto 4, 3) := by decide +kernel
theorem dX2_choosesJump_126 : decode cX2_choosesJump 126 = .ok (.iconst 0, 1) := by decide +kernel
theorem dX2_choosesJump_127 : decode cX2_choosesJump 127 = .ok (.ireturn, 1) := by decide +kernel
theorem dX2_choosesJump_128 : decode cX2_choosesJump 128 = .ok (.iload 4, 2) := by decide +kernel
theorem dX2_choosesJump_130 : decode cX2_choosesJump 130 = .ok (.iload_n 3, 1) := by decide +kernel
theorem dX2_choosesJump_131 : decode cX2_choosesJump 131 = .ok (.if_icmp .le 7, 3) := by decide +kernel
theorem dX2_choosesJump_134 : decode cX2_choosesJump 134 = .ok (.iconst 1, 1) := by decide +kernel
theorem dX2_choosesJump_135 : decode cX2_choosesJump 135 = .ok (.goto 4, 3) := by decide +kernel
theorem dX2_choosesJump_138 : decode cX2_choosesJump 138 = .ok (.iconst 0, 1) := by decide +kernel
theorem dX2_choosesJump_139 : decode cX2_choosesJump 139 = .ok (.ireturn, 1) := by decide +kernel
theorem dX2_choosesJump_140 : decode cX2_choosesJump 140 = .ok (.iload 4, 2) := by decide +kernel
theorem dX2_choosesJump_142 : decode cX2_choosesJump 142 = .ok (.iload_n 3, 1) := by decide +kernel
theorem dX2_choosesJump_143 : decode cX2_choosesJump 143 = .ok (.if_icmp .gt 7, 3) := by decide +kernel
theorem dX2_choosesJump_146 : decode cX2_choosesJump 146 = .ok (.iconst 1, 1) := by decide +kernel
theorem dX2_choosesJump_147 : decode cX2_choosesJump 147 = .ok (.goto 4, 3) := by decide +kernel
theorem dX2_choosesJump_150 : decode cX2_choosesJump 150 = .ok (.iconst 0, 1) := by decide +kernel
theorem dX2_choosesJump_151 : decode cX2_choosesJump 151 = .ok (.ireturn, 1) := by decide +kernel
theorem dX2_doMemory_0 : decode cX2_doMemory 0 = .ok (.iload_n 2, 1) := by decide +kernel
theorem dX2_doMemory_1 : decode cX2_doMemory 1 = .ok (.tableswitch 144 34 43 #[55, 73, 91, 99, 114, 122, 144, 144, 144, 130], 55) := by decide +kernel
theorem dX2_doMemory_56 : decode cX2_doMemory 56 = .ok (.aload_n 1, 1) := by decide +kernel
theorem dX2_doMemory_57 : decode cX2_doMemory 57 = .ok (.aload_n 0, 1) := by decide +kernel
theorem dX2_doMemory_58 : decode cX2_doMemory 58 = .ok (.aload_n 1, 1) := by decide +kernel
theorem dX2_doMemory_59 : decode cX2_doMemory 59 = .ok (.invokevirtual 227, 3) := by decide +kernel
theorem dX2_doMemory_62 : decode cX2_doMemory 62 = .ok (.invokestatic 253, 3) := by decide +kernel
theorem dX2_doMemory_65 : decode cX2_doMemory 65 = .ok (.invokevirtual 256, 3) := by decide +kernel
theorem dX2_doMemory_68 : decode cX2_doMemory 68 = .ok (.invokevirtual 233, 3) := by decide +kernel
theorem dX2_doMemory_71 : decode cX2_doMemory 71 = .ok (.goto 74, 3) := by decide +kernel
theorem dX2_doMemory_74 : decode cX2_doMemory 74 = .ok (.aload_n 0, 1) := by decide +kernel
theorem dX2_doMemory_75 : decode cX2_doMemory 75 = .ok (.aload_n 1, 1) := by decide +kernel
theorem dX2_doMemory_76 : decode cX2_doMemory 76 = .ok (.invokevirtual 227, 3) := by decide +kernel
theorem dX2_doMemory_79 : decode cX2_doMemory 79 = .ok (.invokestatic 253, 3) := by decide +kernel
theorem dX2_doMemory_82 : decode cX2_doMemory 82 = .ok (.aload_n 1, 1) := by decide +kernel
theorem dX2_doMemory_83 : decode cX2_doMemory 83 = .ok (.invokevirtual 215, 3) := by decide +kernel
theorem dX2_doMemory_86 : decode cX2_doMemory 86 = .ok (.invokevirtual 259, 3) := by decide +kernel
theorem dX2_doMemory_89 : decode cX2_doMemory 89 = .ok (.goto 56, 3) := by decide +kernel
theorem dX2_doMemory_92 : decode cX2_doMemory 92 = .ok (.aload_n 0, 1) := by decide +kernel
theorem dX2_doMemory_93 : decode cX2_doMemory 93 = .ok (.aload_n 1, 1) := by decide +kernel
theorem dX2_doMemory_94 : decode cX2_doMemory 94 = .ok (.invokevirtual 262, 3) := by decide +kernel
theorem dX2_doMemory_97 : decode cX2_doMemory 97 = .ok (.goto 48, 3) := by decide +kernel
theorem dX2_doMemory_100 : decode cX2_doMemory 100 = .ok (.aload_n 1, 1) := by decide +kernel
theorem dX2_doMemory_101 : decode cX2_doMemory 101 = .ok (.aload_n 0, 1) := by decide +kernel
theorem dX2_doMemory_102 : decode cX2_doMemory 102 = .ok (.aload_n 1, 1) := by decide +kernel
theorem dX2_doMemory_103 : decode cX2_doMemory 103 = .ok (.invokevirtual 215, 3) := by decide +kernel
theorem dX2_doMemory_106 : decode cX2_doMemory 106 = .ok (.invokevirtual 265, 3) := by decide +kernel
theorem dX2_doMemory_109 : decode cX2_doMemory 109 = .ok (.invokevirtual 233, 3) := by decide +kernel
theorem dX2_doMemory_112 : decode cX2_doMemory 112 = .ok (.goto 33, 3) := by decide +kernel
theorem dX2_doMemory_115 : decode cX2_doMemory 115 = .ok (.aload_n 0, 1) := by decide +kernel
theorem dX2_doMemory_116 : decode cX2_doMemory 116 = .ok (.aload_n 1, 1) := by decide +kernel
theorem dX2_doMemory_117 : decode cX2_doMemory 117 = .ok (.invokevirtual 268, 3) := by decide +kernel
theorem dX2_doMemory_120 : decode cX2_doMemory 120 = .ok (.goto 25, 3) := by decide +kernel
theorem dX2_doMemory_123 : decode cX2_doMemory 123 = .ok (.aload_n 0, 1) := by decide +kernel
theorem dX2_doMemory_124 : decode cX2_doMemory 124 = .ok (.aload_n 1, 1) := by decide +kernel
theorem dX2_doMemory_125 : decode cX2_doMemory 125 = .ok (.invokevirtual 271, 3) := by decide +kernel
theorem dX2_doMemory_128 : decode cX2_doMemory 128 = .ok (.goto 17, 3) := by decide +kernel
theorem dX2_doMemory_131 : decode cX2_doMemory 131 = .ok (.aload_n 0, 1) := by decide +kernel
theorem dX2_doMemory_132 : decode cX2_doMemory 132 = .ok (.getfield 67, 3) := by decide +kernel
theorem dX2_doMemory_135 : decode cX2_doMemory 135 = .ok (.aload_n 1, 1) := by decide +kernel
theorem dX2_doMemory_136 : decode cX2_doMemory 136 = .ok (.invokevirtual 215, 3) := by decide +kernel
theorem dX2_doMemory_139 : decode cX2_doMemory 139 = .ok (.invokevirtual 274, 3) := by decide +kernel
theorem dX2_doMemory_142 : decode cX2_doMemory 142 = .ok (.goto 3, 3) := by decide +kernel
theorem dX2_doMemory_145 : decode cX2_doMemory 145 = .ok (.return_, 1) := by decide +kernel
theorem dX2_makeRow_0 : decode cX2_makeRow 0 = .ok (.aload_n 1, 1) := by decide +kernel
theorem dX2_makeRow_1 : decode cX2_makeRow 1 = .ok (.invokevirtual 215, 3) := by decide +kernel
theorem dX2_makeRow_4 : decode cX2_makeRow 4 = .ok (.istore_n 2, 1) := by decide +kernel
theorem dX2_makeRow_5 : decode cX2_makeRow 5 = .ok (.aload_n 0, 1) := by decide +kernel
theorem dX2_makeRow_6 : decode cX2_makeRow 6 = .ok (.getfield 67, 3) := by decide +kernel
theorem dX2_makeRow_9 : decode cX2_makeRow 9 = .ok (.getfield 277, 3) := by decide +kernel
theorem dX2_makeRow_12 : decode cX2_makeRow 12 = .ok (.istore_n 3, 1) := by decide +kernel
theorem dX2_makeRow_13 : decode cX2_makeRow 13 = .ok (.iload_n 2, 1) := by decide +kernel
theorem dX2_makeRow_14 : decode cX2_makeRow 14 = .ok (.ifCond .lt 9, 3) := by decide +kernel
theorem dX2_makeRow_17 : decode cX2_makeRow 17 = .ok (.iload_n 2, 1) := by decide +kernel
theorem dX2_makeRow_18 : decode cX2_makeRow 18 = .ok (.bipush 50, 2) := by decide +kernel
theorem dX2_makeRow_20 : decode cX2_makeRow 20 = .ok (.if_icmp .le 13, 3) := by decide +kernel
theorem dX2_makeRow_23 : decode cX2_makeRow 23 = .ok (.aload_n 0, 1) := by decide +kernel
theorem dX2_makeRow_24 : decode cX2_makeRow 24 = .ok (.aload_n 1, 1) := by decide +kernel
theorem dX2_makeRow_25 : decode cX2_makeRow 25 = .ok (.bipush 103, 2) := by decide +kernel
theorem dX2_makeRow_27 : decode cX2_makeRow 27 = .ok (.invokevirtual 218, 3) := by decide +kernel
theorem dX2_makeRow_30 : decode cX2_makeRow 30 = .ok (.goto 71, 3) := by decide +kernel
theorem dX2_makeRow_33 : decode cX2_makeRow 33 = .ok (.iload_n 3, 1) := by decide +kernel
theorem dX2_makeRow_34 : decode cX2_makeRow 34 = .ok (.ifCond .lt 9, 3) := by decide +kernel
theorem dX2_makeRow_37 : decode cX2_makeRow 37 = .ok (.iload_n 3, 1) := by decide +kernel
theorem dX2_makeRow_38 : decode cX2_makeRow 38 = .ok (.bipush 30, 2) := by decide +kernel
theorem dX2_makeRow_40 : decode cX2_makeRow 40 = .ok (.if_icmp .lt 13, 3) := by decide +kernel
theorem dX2_makeRow_43 : decode cX2_makeRow 43 = .ok (.aload_n 0, 1) := by decide +kernel
theorem dX2_makeRow_44 : decode cX2_makeRow 44 = .ok (.aload_n 1, 1) := by decide +kernel
theorem dX2_makeRow_45 : decode cX2_makeRow 45 = .ok (.bipush 104, 2) := by decide +kernel
theorem dX2_makeRow_47 : decode cX2_makeRow 47 = .ok (.invokevirtual 218, 3) := by decide +kernel
theorem dX2_makeRow_50 : decode cX2_makeRow 50 = .ok (.goto 51, 3) := by decide +kernel
theorem dX2_makeRow_53 : decode cX2_makeRow 53 = .ok (.bipush 8, 2) := by decide +kernel
theorem dX2_makeRow_55 : decode cX2_makeRow 55 = .ok (.iload_n 3, 1) := by decide +kernel
theorem dX2_makeRow_56 : decode cX2_makeRow 56 = .ok (.bipush 50, 2) := by decide +kernel
theorem dX2_makeRow_58 : decode cX2_makeRow 58 = .ok (.imul, 1) := by decide +kernel
theorem dX2_makeRow_59 : decode cX2_makeRow 59 = .ok (.iadd, 1) := by decide +kernel
theorem dX2_makeRow_60 : decode cX2_makeRow 60 = .ok (.istore 4, 2) := by decide +kernel
theorem dX2_makeRow_62 : decode cX2_makeRow 62 = .ok (.aload_n 0, 1) := by decide +kernel
theorem dX2_makeRow_63 : decode cX2_makeRow 63 = .ok (.getfield 17, 3) := by decide +kernel
theorem dX2_makeRow_66 : decode cX2_makeRow 66 = .ok (.iload 4, 2) := by decide +kernel
theorem dX2_makeRow_68 : decode cX2_makeRow 68 = .ok (.iload 4, 2) := by decide +kernel
theorem dX2_makeRow_70 : decode cX2_makeRow 70 = .ok (.iload_n 2, 1) := by decide +kernel
theorem dX2_makeRow_71 : decode cX2_makeRow 71 = .ok (.iadd, 1) := by decide +kernel
theorem dX2_makeRow_72 : decode cX2_makeRow 72 = .ok (.iconst 0, 1) := by decide +kernel
theorem dX2_makeRow_73 : decode cX2_makeRow 73 = .ok (.invokestatic 79, 3) := by decide +kernel
theorem dX2_makeRow_76 : decode cX2_makeRow 76 = .ok (.aload_n 0, 1) := by decide +kernel
theorem dX2_makeRow_77 : decode cX2_makeRow 77 = .ok (.getfield 21, 3) := by decide +kernel
theorem dX2_makeRow_80 : decode cX2_makeRow 80 = .ok (.iload_n 3, 1) := by decide +kernel
theorem dX2_makeRow_81 : decode cX2_makeRow 81 = .ok (.iload_n 2, 1) := by decide +kernel
theorem dX2_makeRow_82 : decode cX2_makeRow 82 = .ok (.iastore, 1) := by decide +kernel
theorem dX2_makeRow_83 : decode cX2_makeRow 83 = .ok (.aload_n 0, 1) := by decide +kernel
theorem dX2_makeRow_84 : decode cX2_makeRow 84 = .ok (.getfield 67, 3) := by decide +kernel
theorem dX2_makeRow_87 : decode cX2_makeRow 87 = .ok (.dup, 1) := by decide +kernel
theorem dX2_makeRow_88 : decode cX2_makeRow 88 = .ok (.getfield 277, 3) := by decide +kernel
theorem dX2_makeRow_91 : decode cX2_makeRow 91 = .ok (.iconst 1, 1) := by decide +kernel
theorem dX2_makeRow_92 : decode cX2_makeRow 92 = .ok (.iadd, 1) := by decide +kernel
theorem dX2_makeRow_93 : decode cX2_makeRow 93 = .ok (.putfield 277, 3) := by decide +kernel
theorem dX2_makeRow_96 : decode cX2_makeRow 96 = .ok (.aload_n 1, 1) := by decide +kernel
theorem dX2_makeRow_97 : decode cX2_makeRow 97 = .ok (.iload_n 3, 1) := by decide +kernel
theorem dX2_makeRow_98 : decode cX2_makeRow 98 = .ok (.invokevirtual 233, 3) := by decide +kernel
theorem dX2_makeRow_101 : decode cX2_makeRow 101 = .ok (.return_, 1) := by decide +kernel
theorem dX2_takeFromRow_0 : decode cX2_takeFromRow 0 = .ok (.aload_n 1, 1) := by decide +kernel
theorem dX2_takeFromRow_1 : decode cX2_takeFromRow 1 = .ok (.invokevirtual 215, 3) := by decide +kernel
theorem dX2_takeFromRow_4 : decode cX2_takeFromRow 4 = .ok (.istore_n 2, 1) := by decide +kernel
theorem dX2_takeFromRow_5 : decode cX2_takeFromRow 5 = .ok (.aload_n 0, 1) := by decide +kernel
theorem dX2_takeFromRow_6 : decode cX2_takeFromRow 6 = .ok (.aload_n 1, 1) := by decide +kernel
theorem dX2_takeFromRow_7 : decode cX2_takeFromRow 7 = .ok (.invokevirtual 215, 3) := by decide +kernel
theorem dX2_takeFromRow_10 : decode cX2_takeFromRow 10 = .ok (.iload_n 2, 1) := by decide +kernel
theorem dX2_takeFromRow_11 : decode cX2_takeFromRow 11 = .ok (.invokevirtual 280, 3) := by decide +kernel
theorem dX2_takeFromRow_14 : decode cX2_takeFromRow 14 = .ok (.istore_n 3, 1) := by decide +kernel
theorem dX2_takeFromRow_15 : decode cX2_takeFromRow 15 = .ok (.iload_n 3, 1) := by decide +kernel
theorem dX2_takeFromRow_16 : decode cX2_takeFromRow 16 = .ok (.iconst (-1), 1) := by decide +kernel
theorem dX2_takeFromRow_17 : decode cX2_takeFromRow 17 = .ok (.if_icmp .ne 13, 3) := by decide +kernel
theorem dX2_takeFromRow_20 : decode cX2_takeFromRow 20 = .ok (.aload_n 0, 1) := by decide +kernel
theorem dX2_takeFromRow_21 : decode cX2_takeFromRow 21 = .ok (.aload_n 1, 1) := by decide +kernel
theorem dX2_takeFromRow_22 : decode cX2_takeFromRow 22 = .ok (.bipush 102, 2) := by decide +kernel
theorem dX2_takeFromRow_24 : decode cX2_takeFromRow 24 = .ok (.invokevirtual 218, 3) := by decide +kernel
theorem dX2_takeFromRow_27 : decode cX2_takeFromRow 27 = .ok (.goto 12, 3) := by decide +kernel
theorem dX2_takeFromRow_30 : decode cX2_takeFromRow 30 = .ok (.aload_n 1, 1) := by decide +kernel
theorem dX2_takeFromRow_31 : decode cX2_takeFromRow 31 = .ok (.aload_n 0, 1) := by decide +kernel
theorem dX2_takeFromRow_32 : decode cX2_takeFromRow 32 = .ok (.iload_n 3, 1) := by decide +kernel
theorem dX2_takeFromRow_33 : decode cX2_takeFromRow 33 = .ok (.invokevirtual 256, 3) := by decide +kernel
theorem dX2_takeFromRow_36 : decode cX2_takeFromRow 36 = .ok (.invokevirtual 233, 3) := by decide +kernel
theorem dX2_takeFromRow_39 : decode cX2_takeFromRow 39 = .ok (.return_, 1) := by decide +kernel
theorem dX2_layInRow_0 : decode cX2_layInRow 0 = .ok (.aload_n 1, 1) := by decide +kernel
theorem dX2_layInRow_1 : decode cX2_layInRow 1 = .ok (.invokevirtual 215, 3) := by decide +kernel
theorem dX2_layInRow_4 : decode cX2_layInRow 4 = .ok (.istore_n 2, 1) := by decide +kernel
theorem dX2_layInRow_5 : decode cX2_layInRow 5 = .ok (.aload_n 1, 1) := by decide +kernel
theorem dX2_layInRow_6 : decode cX2_layInRow 6 = .ok (.invokevirtual 215, 3) := by decide +kernel
theorem dX2_layInRow_9 : decode cX2_layInRow 9 = .ok (.istore_n 3, 1) := by decide +kernel
theorem dX2_layInRow_10 : decode cX2_layInRow 10 = .ok (.aload_n 0, 1) := by decide +kernel
theorem dX2_layInRow_11 : decode cX2_layInRow 11 = .ok (.aload_n 1, 1) := by decide +kernel
theorem dX2_layInRow_12 : decode cX2_layInRow 12 = .ok (.invokevirtual 215, 3) := by decide +kernel
theorem dX2_layInRow_15 : decode cX2_layInRow 15 = .ok (.iload_n 3, 1) := by decide +kernel
theorem dX2_layInRow_16 : decode cX2_layInRow 16 = .ok (.invokevirtual 280, 3) := by decide +kernel
theorem dX2_layInRow_19 : decode cX2_layInRow 19 = .ok (.istore 4, 2) := by decide +kernel
theorem dX2_layInRow_21 : decode cX2_layInRow 21 = .ok (.iload 4, 2) := by decide +kernel
theorem dX2_layInRow_23 : decode cX2_layInRow 23 = .ok (.iconst (-1), 1) := by decide +kernel
theorem dX2_layInRow_24 : decode cX2_layInRow 24 = .ok (.if_icmp .ne 13, 3) := by decide +kernel
theorem dX2_layInRow_27 : decode cX2_layInRow 27 = .ok (.aload_n 0, 1) := by decide +kernel
theorem dX2_layInRow_28 : decode cX2_layInRow 28 = .ok (.aload_n 1, 1) := by decide +kernel
theorem dX2_layInRow_29 : decode cX2_layInRow 29 = .ok (.bipush 102, 2) := by decide +kernel
theorem dX2_layInRow_31 : decode cX2_layInRow 31 = .ok (.invokevirtual 218, 3) := by decide +kernel
theorem dX2_layInRow_34 : decode cX2_layInRow 34 = .ok (.goto 10, 3) := by decide +kernel
theorem dX2_layInRow_37 : decode cX2_layInRow 37 = .ok (.aload_n 0, 1) := by decide +kernel
theorem dX2_layInRow_38 : decode cX2_layInRow 38 = .ok (.iload 4, 2) := by decide +kernel
theorem dX2_layInRow_40 : decode cX2_layInRow 40 = .ok (.iload_n 2, 1) := by decide +kernel
theorem dX2_layInRow_41 : decode cX2_layInRow 41 = .ok (.invokevirtual 259, 3) := by decide +kernel
theorem dX2_layInRow_44 : decode cX2_layInRow 44 = .ok (.return_, 1) := by decide +kernel
theorem dX2_fieldCell_0 : decode cX2_fieldCell 0 = .ok (.iload_n 0, 1) := by decide +kernel
theorem dX2_fieldCell_1 : decode cX2_fieldCell 1 = .ok (.ifCond .lt 13, 3) := by decide +kernel
theorem dX2_fieldCell_4 : decode cX2_fieldCell 4 = .ok (.iload_n 0, 1) := by decide +kernel
theorem dX2_fieldCell_5 : decode cX2_fieldCell 5 = .ok (.bipush 8, 2) := by decide +kernel
theorem dX2_fieldCell_7 : decode cX2_fieldCell 7 = .ok (.if_icmp .ge 7, 3) := by decide +kernel
theorem dX2_fieldCell_10 : decode cX2_fieldCell 10 = .ok (.iload_n 0, 1) := by decide +kernel
theorem dX2_fieldCell_11 : decode cX2_fieldCell 11 = .ok (.goto 4, 3) := by decide +kernel
theorem dX2_fieldCell_14 : decode cX2_fieldCell 14 = .ok (.iconst (-1), 1) := by decide +kernel
theorem dX2_fieldCell_15 : decode cX2_fieldCell 15 = .ok (.ireturn, 1) := by decide +kernel
theorem dX2_sizeOfRow_0 : decode cX2_sizeOfRow 0 = .ok (.iload_n 1, 1) := by decide +kernel
theorem dX2_sizeOfRow_1 : decode cX2_sizeOfRow 1 = .ok (.ifCond .lt 29, 3) := by decide +kernel
theorem dX2_sizeOfRow_4 : decode cX2_sizeOfRow 4 = .ok (.iload_n 1, 1) := by decide +kernel
theorem dX2_sizeOfRow_5 : decode cX2_sizeOfRow 5 = .ok (.aload_n 0, 1) := by decide +kernel
theorem dX2_sizeOfRow_6 : decode cX2_sizeOfRow 6 = .ok (.getfield 67, 3) := by decide +kernel
theorem dX2_sizeOfRow_9 : decode cX2_sizeOfRow 9 = .ok (.getfield 277, 3) := by decide +kernel
theorem dX2_sizeOfRow_12 : decode cX2_sizeOfRow 12 = .ok (.if_icmp .ge 18, 3) := by decide +kernel
theorem dX2_sizeOfRow_15 : decode cX2_sizeOfRow 15 = .ok (.iload_n 1, 1) := by decide +kernel
theorem dX2_sizeOfRow_16 : decode cX2_sizeOfRow 16 = .ok (.bipush 30, 2) := by decide +kernel
theorem dX2_sizeOfRow_18 : decode cX2_sizeOfRow 18 = .ok (.if_icmp .ge 12, 3) := by decide +kernel
theorem dX2_sizeOfRow_21 : decode cX2_sizeOfRow 21 = .ok (.aload_n 0, 1) := by decide +kernel
theorem dX2_sizeOfRow_22 : decode cX2_sizeOfRow 22 = .ok (.getfield 21, 3) := by decide +kernel
theorem dX2_sizeOfRow_25 : decode cX2_sizeOfRow 25 = .ok (.iload_n 1, 1) := by decide +kernel
theorem dX2_sizeOfRow_26 : decode cX2_sizeOfRow 26 = .ok (.iaload, 1) := by decide +kernel
theorem dX2_sizeOfRow_27 : decode cX2_sizeOfRow 27 = .ok (.goto 4, 3) := by decide +kernel
theorem dX2_sizeOfRow_30 : decode cX2_sizeOfRow 30 = .ok (.iconst 0, 1) := by decide +kernel
theorem dX2_sizeOfRow_31 : decode cX2_sizeOfRow 31 = .ok (.ireturn, 1) := by decide +kernel
theorem dX2_rowCell_0 : decode cX2_rowCell 0 = .ok (.iload_n 1, 1) := by decide +kernel
theorem dX2_rowCell_1 : decode cX2_rowCell 1 = .ok (.ifCond .lt 34, 3) := by decide +kernel
theorem dX2_rowCell_4 : decode cX2_rowCell 4 = .ok (.iload_n 1, 1) := by decide +kernel
theorem dX2_rowCell_5 : decode cX2_rowCell 5 = .ok (.aload_n 0, 1) := by decide +kernel
theorem dX2_rowCell_6 : decode cX2_rowCell 6 = .ok (.getfield 67, 3) := by decide +kernel
theorem dX2_rowCell_9 : decode cX2_rowCell 9 = .ok (.getfield 277, 3) := by decide +kernel
theorem dX2_rowCell_12 : decode cX2_rowCell 12 = .ok (.if_icmp .ge 23, 3) := by decide +kernel
theorem dX2_rowCell_15 : decode cX2_rowCell 15 = .ok (.iload_n 1, 1) := by decide +kernel
theorem dX2_rowCell_16 : decode cX2_rowCell 16 = .ok (.bipush 30, 2) := by decide +kernel
theorem dX2_rowCell_18 : decode cX2_rowCell 18 = .ok (.if_icmp .ge 17, 3) := by decide +kernel
theorem dX2_rowCell_21 : decode cX2_rowCell 21 = .ok (.iload_n 2, 1) := by decide +kernel
theorem dX2_rowCell_22 : decode cX2_rowCell 22 = .ok (.ifCond .lt 13, 3) := by decide +kernel
theorem dX2_rowCell_25 : decode cX2_rowCell 25 = .ok (.iload_n 2, 1) := by decide +kernel
theorem dX2_rowCell_26 : decode cX2_rowCell 26 = .ok (.aload_n 0, 1) := by decide +kernel
theorem dX2_rowCell_27 : decode cX2_rowCell 27 = .ok (.getfield 21, 3) := by decide +kernel
theorem dX2_rowCell_30 : decode cX2_rowCell 30 = .ok (.iload_n 1, 1) := by decide +kernel
theorem dX2_rowCell_31 : decode cX2_rowCell 31 = .ok (.iaload, 1) := by decide +kernel
theorem dX2_rowCell_32 : decode cX2_rowCell 32 = .ok (.if_icmp .lt 5, 3) := by decide +kernel
theorem dX2_rowCell_35 : decode cX2_rowCell 35 = .ok (.iconst (-1), 1) := by decide +kernel
theorem dX2_rowCell_36 : decode cX2_rowCell 36 = .ok (.ireturn, 1) := by decide +kernel
theorem dX2_rowCell_37 : decode cX2_rowCell 37 = .ok (.bipush 8, 2) := by decide +kernel
theorem dX2_rowCell_39 : decode cX2_rowCell 39 = .ok (.iload_n 1, 1) := by decide +kernel
theorem dX2_rowCell_40 : decode cX2_rowCell 40 = .ok (.bipush 50, 2) := by decide +kernel
theorem dX2_rowCell_42 : decode cX2_rowCell 42 = .ok (.imul, 1) := by decide +kernel
theorem dX2_rowCell_43 : decode cX2_rowCell 43 = .ok (.iadd, 1) := by decide +kernel
theorem dX2_rowCell_44 : decode cX2_rowCell 44 = .ok (.iload_n 2, 1) := by decide +kernel
theorem dX2_rowCell_45 : decode cX2_rowCell 45 = .ok (.iadd, 1) := by decide +kernel
theorem dX2_rowCell_46 : decode cX2_rowCell 46 = .ok (.ireturn, 1) := by decide +kernel
theorem dX2_cellInt_0 : decode cX2_cellInt 0 = .ok (.iload_n 1, 1) := by decide +kernel
theorem dX2_cellInt_1 : decode cX2_cellInt 1 = .ok (.ifCond .lt 21, 3) := by decide +kernel
theorem dX2_cellInt_4 : decode cX2_cellInt 4 = .ok (.iload_n 1, 1) := by decide +kernel
theorem dX2_cellInt_5 : decode cX2_cellInt 5 = .ok (.aload_n 0, 1) := by decide +kernel
theorem dX2_cellInt_6 : decode cX2_cellInt 6 = .ok (.getfield 17, 3) := by decide +kernel
theorem dX2_cellInt_9 : decode cX2_cellInt 9 = .ok (.arraylength, 1) := by decide +kernel
theorem dX2_cellInt_10 : decode cX2_cellInt 10 = .ok (.if_icmp .ge 12, 3) := by decide +kernel
theorem dX2_cellInt_13 : decode cX2_cellInt 13 = .ok (.aload_n 0, 1) := by decide +kernel
theorem dX2_cellInt_14 : decode cX2_cellInt 14 = .ok (.getfield 17, 3) := by decide +kernel
theorem dX2_cellInt_17 : decode cX2_cellInt 17 = .ok (.iload_n 1, 1) := by decide +kernel
theorem dX2_cellInt_18 : decode cX2_cellInt 18 = .ok (.iaload, 1) := by decide +kernel
theorem dX2_cellInt_19 : decode cX2_cellInt 19 = .ok (.goto 4, 3) := by decide +kernel
theorem dX2_cellInt_22 : decode cX2_cellInt 22 = .ok (.iconst 0, 1) := by decide +kernel
theorem dX2_cellInt_23 : decode cX2_cellInt 23 = .ok (.ireturn, 1) := by decide +kernel
theorem dX2_setCell_0 : decode cX2_setCell 0 = .ok (.iload_n 1, 1) := by decide +kernel
theorem dX2_setCell_1 : decode cX2_setCell 1 = .ok (.ifCond .lt 19, 3) := by decide +kernel
theorem dX2_setCell_4 : decode cX2_setCell 4 = .ok (.iload_n 1, 1) := by decide +kernel
theorem dX2_setCell_5 : decode cX2_setCell 5 = .ok (.aload_n 0, 1) := by decide +kernel
theorem dX2_setCell_6 : decode cX2_setCell 6 = .ok (.getfield 17, 3) := by decide +kernel
theorem dX2_setCell_9 : decode cX2_setCell 9 = .ok (.arraylength, 1) := by decide +kernel
theorem dX2_setCell_10 : decode cX2_setCell 10 = .ok (.if_icmp .ge 10, 3) := by decide +kernel
theorem dX2_setCell_13 : decode cX2_setCell 13 = .ok (.aload_n 0, 1) := by decide +kernel
theorem dX2_setCell_14 : decode cX2_setCell 14 = .ok (.getfield 17, 3) := by decide +kernel
theorem dX2_setCell_17 : decode cX2_setCell 17 = .ok (.iload_n 1, 1) := by decide +kernel
theorem dX2_setCell_18 : decode cX2_setCell 18 = .ok (.iload_n 2, 1) := by decide +kernel
theorem dX2_setCell_19 : decode cX2_setCell 19 = .ok (.iastore, 1) := by decide +kernel
theorem dX2_setCell_20 : decode cX2_setCell 20 = .ok (.return_, 1) := by decide +kernel
theorem dX2_doCall_0 : decode cX2_doCall 0 = .ok (.aload_n 1, 1) := by decide +kernel
theorem dX2_doCall_1 : decode cX2_doCall 1 = .ok (.invokevirtual 227, 3) := by decide +kernel
theorem dX2_doCall_4 : decode cX2_doCall 4 = .ok (.istore_n 2, 1) := by decide +kernel
theorem dX2_doCall_5 : decode cX2_doCall 5 = .ok (.aload_n 0, 1) := by decide +kernel
theorem dX2_doCall_6 : decode cX2_doCall 6 = .ok (.getfield 34, 3) := by decide +kernel
theorem dX2_doCall_9 : decode cX2_doCall 9 = .ok (.bipush 12, 2) := by decide +kernel
theorem dX2_doCall_11 : decode cX2_doCall 11 = .ok (.if_icmp .ge 12, 3) := by decide +kernel
theorem dX2_doCall_14 : decode cX2_doCall 14 = .ok (.iload_n 2, 1) := by decide +kernel
theorem dX2_doCall_15 : decode cX2_doCall 15 = .ok (.aload_n 0, 1) := by decide +kernel
theorem dX2_doCall_16 : decode cX2_doCall 16 = .ok (.getfield 59, 3) := by decide +kernel
theorem dX2_doCall_19 : decode cX2_doCall 19 = .ok (.arraylength, 1) := by decide +kernel
theorem dX2_doCall_20 : decode cX2_doCall 20 = .ok (.if_icmp .lt 11, 3) := by decide +kernel
theorem dX2_doCall_23 : decode cX2_doCall 23 = .ok (.aload_n 0, 1) := by decide +kernel
theorem dX2_doCall_24 : decode cX2_doCall 24 = .ok (.aload_n 1, 1) := by decide +kernel
theorem dX2_doCall_25 : decode cX2_doCall 25 = .ok (.bipush 105, 2) := by decide +kernel
theorem dX2_doCall_27 : decode cX2_doCall 27 = .ok (.invokevirtual 218, 3) := by decide +kernel
theorem dX2_doCall_30 : decode cX2_doCall 30 = .ok (.return_, 1) := by decide +kernel
theorem dX2_doCall_31 : decode cX2_doCall 31 = .ok (.aload_n 0, 1) := by decide +kernel
theorem dX2_doCall_32 : decode cX2_doCall 32 = .ok (.aload_n 0, 1) := by decide +kernel
theorem dX2_doCall_33 : decode cX2_doCall 33 = .ok (.getfield 59, 3) := by decide +kernel
theorem dX2_doCall_36 : decode cX2_doCall 36 = .ok (.iload_n 2, 1) := by decide +kernel
theorem dX2_doCall_37 : decode cX2_doCall 37 = .ok (.aaload, 1) := by decide +kernel
theorem dX2_doCall_38 : decode cX2_doCall 38 = .ok (.invokevirtual 88, 3) := by decide +kernel
theorem dX2_doCall_41 : decode cX2_doCall 41 = .ok (.astore_n 3, 1) := by decide +kernel
theorem dX2_doCall_42 : decode cX2_doCall 42 = .ok (.aload_n 0, 1) := by decide +kernel
theorem dX2_doCall_43 : decode cX2_doCall 43 = .ok (.getfield 59, 3) := by decide +kernel
theorem dX2_doCall_46 : decode cX2_doCall 46 = .ok (.iload_n 2, 1) := by decide +kernel
theorem dX2_doCall_47 : decode cX2_doCall 47 = .ok (.aaload, 1) := by decide +kernel
theorem dX2_doCall_48 : decode cX2_doCall 48 = .ok (.getfield 92, 3) := by decide +kernel
theorem dX2_doCall_51 : decode cX2_doCall 51 = .ok (.iconst 1, 1) := by decide +kernel
theorem dX2_doCall_52 : decode cX2_doCall 52 = .ok (.isub, 1) := by decide +kernel
theorem dX2_doCall_53 : decode cX2_doCall 53 = .ok (.istore 4, 2) := by decide +kernel
theorem dX2_doCall_55 : decode cX2_doCall 55 = .ok (.iload 4, 2) := by decide +kernel
theorem dX2_doCall_57 : decode cX2_doCall 57 = .ok (.ifCond .lt 19, 3) := by decide +kernel
theorem dX2_doCall_60 : decode cX2_doCall 60 = .ok (.aload_n 3, 1) := by decide +kernel
theorem dX2_doCall_61 : decode cX2_doCall 61 = .ok (.iload 4, 2) := by decide +kernel
theorem dX2_doCall_63 : decode cX2_doCall 63 = .ok (.aload_n 1, 1) := by decide +kernel
theorem dX2_doCall_64 : decode cX2_doCall 64 = .ok (.invokevirtual 215, 3) := by decide +kernel
theorem dX2_doCall_67 : decode cX2_doCall 67 = .ok (.invokevirtual 97, 3) := by decide +kernel
theorem dX2_doCall_70 : decode cX2_doCall 70 = .ok (.iinc 4 (-1), 3) := by decide +kernel
theorem dX2_doCall_73 : decode cX2_doCall 73 = .ok (.goto (-18), 3) := by decide +kernel
theorem dX2_doCall_76 : decode cX2_doCall 76 = .ok (.aload_n 0, 1) := by decide +kernel
theorem dX2_doCall_77 : decode cX2_doCall 77 = .ok (.aload_n 3, 1) := by decide +kernel
theorem dX2_doCall_78 : decode cX2_doCall 78 = .ok (.invokevirtual 101, 3) := by decide +kernel
theorem dX2_doCall_81 : decode cX2_doCall 81 = .ok (.return_, 1) := by decide +kernel
theorem dX2_doGive_0 : decode cX2_doGive 0 = .ok (.aload_n 1, 1) := by decide +kernel
theorem dX2_doGive_1 : decode cX2_doGive 1 = .ok (.invokevirtual 215, 3) := by decide +kernel
theorem dX2_doGive_4 : decode cX2_doGive 4 = .ok (.istore_n 2, 1) := by decide +kernel
theorem dX2_doGive_5 : decode cX2_doGive 5 = .ok (.aload_n 0, 1) := by decide +kernel
theorem dX2_doGive_6 : decode cX2_doGive 6 = .ok (.dup, 1) := by decide +kernel
theorem dX2_doGive_7 : decode cX2_doGive 7 = .ok (.getfield 34, 3) := by decide +kernel
theorem dX2_doGive_10 : decode cX2_doGive 10 = .ok (.iconst 1, 1) := by decide +kernel
theorem dX2_doGive_11 : decode cX2_doGive 11 = .ok (.isub, 1) := by decide +kernel
theorem dX2_doGive_12 : decode cX2_doGive 12 = .ok (.putfield 34, 3) := by decide +kernel
theorem dX2_doGive_15 : decode cX2_doGive 15 = .ok (.aload_n 0, 1) := by decide +kernel
theorem dX2_doGive_16 : decode cX2_doGive 16 = .ok (.getfield 34, 3) := by decide +kernel
theorem dX2_doGive_19 : decode cX2_doGive 19 = .ok (.iconst 1, 1) := by decide +kernel
theorem dX2_doGive_20 : decode cX2_doGive 20 = .ok (.if_icmp .lt 12, 3) := by decide +kernel
theorem dX2_doGive_23 : decode cX2_doGive 23 = .ok (.aload_n 0, 1) := by decide +kernel
theorem dX2_doGive_24 : decode cX2_doGive 24 = .ok (.getfield 34, 3) := by decide +kernel
theorem dX2_doGive_27 : decode cX2_doGive 27 = .ok (.bipush 12, 2) := by decide +kernel
theorem dX2_doGive_29 : decode cX2_doGive 29 = .ok (.if_icmp .le 20, 3) := by decide +kernel
theorem dX2_doGive_32 : decode cX2_doGive 32 = .ok (.aload_n 0, 1) := by decide +kernel
theorem dX2_doGive_33 : decode cX2_doGive 33 = .ok (.getfield 67, 3) := by decide +kernel
theorem dX2_doGive_36 : decode cX2_doGive 36 = .ok (.iconst 0, 1) := by decide +kernel
theorem dX2_doGive_37 : decode cX2_doGive 37 = .ok (.putfield 106, 3) := by decide +kernel
theorem dX2_doGive_40 : decode cX2_doGive 40 = .ok (.aload_n 0, 1) := by decide +kernel
theorem dX2_doGive_41 : decode cX2_doGive 41 = .ok (.getfield 67, 3) := by decide +kernel
theorem dX2_doGive_44 : decode cX2_doGive 44 = .ok (.iload_n 2, 1) := by decide +kernel
theorem dX2_doGive_45 : decode cX2_doGive 45 = .ok (.putfield 283, 3) := by decide +kernel
theorem dX2_doGive_48 : decode cX2_doGive 48 = .ok (.return_, 1) := by decide +kernel
theorem dX2_doGive_49 : decode cX2_doGive 49 = .ok (.aload_n 0, 1) := by decide +kernel
theorem dX2_doGive_50 : decode cX2_doGive 50 = .ok (.getfield 11, 3) := by decide +kernel
theorem dX2_doGive_53 : decode cX2_doGive 53 = .ok (.aload_n 0, 1) := by decide +kernel
theorem dX2_doGive_54 : decode cX2_doGive 54 = .ok (.getfield 34, 3) := by decide +kernel
theorem dX2_doGive_57 : decode cX2_doGive 57 = .ok (.iconst 1, 1) := by decide +kernel
theorem dX2_doGive_58 : decode cX2_doGive 58 = .ok (.isub, 1) := by decide +kernel
theorem dX2_doGive_59 : decode cX2_doGive 59 = .ok (.aaload, 1) := by decide +kernel
theorem dX2_doGive_60 : decode cX2_doGive 60 = .ok (.astore_n 3, 1) := by decide +kernel
theorem dX2_doGive_61 : decode cX2_doGive 61 = .ok (.aload_n 3, 1) := by decide +kernel
theorem dX2_doGive_62 : decode cX2_doGive 62 = .ok (.iload_n 2, 1) := by decide +kernel
theorem dX2_doGive_63 : decode cX2_doGive 63 = .ok (.invokevirtual 233, 3) := by decide +kernel
theorem dX2_doGive_66 : decode cX2_doGive 66 = .ok (.aload_n 0, 1) := by decide +kernel
theorem dX2_doGive_67 : decode cX2_doGive 67 = .ok (.aload_n 3, 1) := by decide +kernel
theorem dX2_doGive_68 : decode cX2_doGive 68 = .ok (.invokevirtual 224, 3) := by decide +kernel
theorem dX2_doGive_71 : decode cX2_doGive 71 = .ok (.aload_n 3, 1) := by decide +kernel
theorem dX2_doGive_72 : decode cX2_doGive 72 = .ok (.dup, 1) := by decide +kernel
theorem dX2_doGive_73 : decode cX2_doGive 73 = .ok (.getfield 150, 3) := by decide +kernel
theorem dX2_doGive_76 : decode cX2_doGive 76 = .ok (.bipush 40, 2) := by decide +kernel
theorem dX2_doGive_78 : decode cX2_doGive 78 = .ok (.invokestatic 286, 3) := by decide +kernel
theorem dX2_doGive_81 : decode cX2_doGive 81 = .ok (.iadd, 1) := by decide +kernel
theorem dX2_doGive_82 : decode cX2_doGive 82 = .ok (.putfield 150, 3) := by decide +kernel
theorem dX2_doGive_85 : decode cX2_doGive 85 = .ok (.return_, 1) := by decide +kernel
theorem dX2_throwAt_0 : decode cX2_throwAt 0 = .ok (.aload_n 0, 1) := by decide +kernel
theorem dX2_throwAt_1 : decode cX2_throwAt 1 = .ok (.iload_n 2, 1) := by decide +kernel
theorem dX2_throwAt_2 : decode cX2_throwAt 2 = .ok (.putfield 37, 3) := by decide +kernel
theorem dX2_throwAt_5 : decode cX2_throwAt 5 = .ok (.aload_n 0, 1) := by decide +kernel
theorem dX2_throwAt_6 : decode cX2_throwAt 6 = .ok (.aload_n 0, 1) := by decide +kernel
theorem dX2_throwAt_7 : decode cX2_throwAt 7 = .ok (.getfield 56, 3) := by decide +kernel
theorem dX2_throwAt_10 : decode cX2_throwAt 10 = .ok (.putfield 40, 3) := by decide +kernel
theorem dX2_throwAt_13 : decode cX2_throwAt 13 = .ok (.aload_n 0, 1) := by decide +kernel
theorem dX2_throwAt_14 : decode cX2_throwAt 14 = .ok (.aload_n 1, 1) := by decide +kernel
theorem dX2_throwAt_15 : decode cX2_throwAt 15 = .ok (.getfield 289, 3) := by decide +kernel
theorem dX2_throwAt_18 : decode cX2_throwAt 18 = .ok (.getfield 293, 3) := by decide +kernel
theorem dX2_throwAt_21 : decode cX2_throwAt 21 = .ok (.putfield 43, 3) := by decide +kernel
theorem dX2_throwAt_24 : decode cX2_throwAt 24 = .ok (.return_, 1) := by decide +kernel
theorem dX2_unwind_0 : decode cX2_unwind 0 = .ok (.aload_n 0, 1) := by decide +kernel
theorem dX2_unwind_1 : decode cX2_unwind 1 = .ok (.getfield 37, 3) := by decide +kernel
theorem dX2_unwind_4 : decode cX2_unwind 4 = .ok (.istore_n 1, 1) := by decide +kernel
theorem dX2_unwind_5 : decode cX2_unwind 5 = .ok (.aload_n 0, 1) := by decide +kernel
theorem dX2_unwind_6 : decode cX2_unwind 6 = .ok (.iconst 0, 1) := by decide +kernel
theorem dX2_unwind_7 : decode cX2_unwind 7 = .ok (.putfield 37, 3) := by decide +kernel
theorem dX2_unwind_10 : decode cX2_unwind 10 = .ok (.aload_n 0, 1) := by decide +kernel
theorem dX2_unwind_11 : decode cX2_unwind 11 = .ok (.getfield 34, 3) := by decide +kernel
theorem dX2_unwind_14 : decode cX2_unwind 14 = .ok (.ifCond .le 66, 3) := by decide +kernel
theorem dX2_unwind_17 : decode cX2_unwind 17 = .ok (.aload_n 0, 1) := by decide +kernel
theorem dX2_unwind_18 : decode cX2_unwind 18 = .ok (.getfield 34, 3) := by decide +kernel
theorem dX2_unwind_21 : decode cX2_unwind 21 = .ok (.bipush 12, 2) := by decide +kernel
theorem dX2_unwind_23 : decode cX2_unwind 23 = .ok (.if_icmp .gt 57, 3) := by decide +kernel
theorem dX2_unwind_26 : decode cX2_unwind 26 = .ok (.aload_n 0, 1) := by decide +kernel
theorem dX2_unwind_27 : decode cX2_unwind 27 = .ok (.getfield 11, 3) := by decide +kernel
theorem dX2_unwind_30 : decode cX2_unwind 30 = .ok (.aload_n 0, 1) := by decide +kernel
theorem dX2_unwind_31 : decode cX2_unwind 31 = .ok (.getfield 34, 3) := by decide +kernel
theorem dX2_unwind_34 : decode cX2_unwind 34 = .ok (.iconst 1, 1) := by decide +kernel
theorem dX2_unwind_35 : decode cX2_unwind 35 = .ok (.isub, 1) := by decide +kernel
theorem dX2_unwind_36 : decode cX2_unwind 36 = .ok (.aaload, 1) := by decide +kernel
theorem dX2_unwind_37 : decode cX2_unwind 37 = .ok (.astore_n 2, 1) := by decide +kernel
theorem dX2_unwind_38 : decode cX2_unwind 38 = .ok (.aload_n 2, 1) := by decide +kernel
theorem dX2_unwind_39 : decode cX2_unwind 39 = .ok (.iload_n 1, 1) := by decide +kernel
theorem dX2_unwind_40 : decode cX2_unwind 40 = .ok (.invokevirtual 296, 3) := by decide +kernel
theorem dX2_unwind_43 : decode cX2_unwind 43 = .ok (.ifCond .eq 15, 3) := by decide +kernel
theorem dX2_unwind_46 : decode cX2_unwind 46 = .ok (.aload_n 0, 1) := by decide +kernel
theorem dX2_unwind_47 : decode cX2_unwind 47 = .ok (.aload_n 2, 1) := by decide +kernel
theorem dX2_unwind_48 : decode cX2_unwind 48 = .ok (.iconst 5, 1) := by decide +kernel
theorem dX2_unwind_49 : decode cX2_unwind 49 = .ok (.aload_n 2, 1) := by decide +kernel
theorem dX2_unwind_50 : decode cX2_unwind 50 = .ok (.getfield 150, 3) := by decide +kernel
theorem dX2_unwind_53 : decode cX2_unwind 53 = .ok (.iload_n 1, 1) := by decide +kernel
theorem dX2_unwind_54 : decode cX2_unwind 54 = .ok (.invokevirtual 300, 3) := by decide +kernel
theorem dX2_unwind_57 : decode cX2_unwind 57 = .ok (.return_, 1) := by decide +kernel
theorem dX2_unwind_58 : decode cX2_unwind 58 = .ok (.aload_n 0, 1) := by decide +kernel
theorem dX2_unwind_59 : decode cX2_unwind 59 = .ok (.aload_n 2, 1) := by decide +kernel
theorem dX2_unwind_60 : decode cX2_unwind 60 = .ok (.iconst 3, 1) := by decide +kernel
theorem dX2_unwind_61 : decode cX2_unwind 61 = .ok (.iconst 0, 1) := by decide +kernel
theorem dX2_unwind_62 : decode cX2_unwind 62 = .ok (.iload_n 1, 1) := by decide +kernel
theorem dX2_unwind_63 : decode cX2_unwind 63 = .ok (.ineg, 1) := by decide +kernel
theorem dX2_unwind_64 : decode cX2_unwind 64 = .ok (.invokevirtual 300, 3) := by decide +kernel
theorem dX2_unwind_67 : decode cX2_unwind 67 = .ok (.aload_n 0, 1) := by decide +kernel
theorem dX2_unwind_68 : decode cX2_unwind 68 = .ok (.dup, 1) := by decide +kernel
theorem dX2_unwind_69 : decode cX2_unwind 69 = .ok (.getfield 34, 3) := by decide +kernel
theorem dX2_unwind_72 : decode cX2_unwind 72 = .ok (.iconst 1, 1) := by decide +kernel
theorem dX2_unwind_73 : decode cX2_unwind 73 = .ok (.isub, 1) := by decide +kernel
theorem dX2_unwind_74 : decode cX2_unwind 74 = .ok (.putfield 34, 3) := by decide +kernel
theorem dX2_unwind_77 : decode cX2_unwind 77 = .ok (.goto (-67), 3) := by decide +kernel
theorem dX2_unwind_80 : decode cX2_unwind 80 = .ok (.aload_n 0, 1) := by decide +kernel
theorem dX2_unwind_81 : decode cX2_unwind 81 = .ok (.getfield 67, 3) := by decide +kernel
theorem dX2_unwind_84 : decode cX2_unwind 84 = .ok (.iconst 1, 1) := by decide +kernel
theorem dX2_unwind_85 : decode cX2_unwind 85 = .ok (.putfield 106, 3) := by decide +kernel
theorem dX2_unwind_88 : decode cX2_unwind 88 = .ok (.aload_n 0, 1) := by decide +kernel
theorem dX2_unwind_89 : decode cX2_unwind 89 = .ok (.getfield 67, 3) := by decide +kernel
theorem dX2_unwind_92 : decode cX2_unwind 92 = .ok (.iload_n 1, 1) := by decide +kernel
theorem dX2_unwind_93 : decode cX2_unwind 93 = .ok (.putfield 283, 3) := by decide +kernel
theorem dX2_unwind_96 : decode cX2_unwind 96 = .ok (.aload_n 0, 1) := by decide +kernel
theorem dX2_unwind_97 : decode cX2_unwind 97 = .ok (.getfield 67, 3) := by decide +kernel
theorem dX2_unwind_100 : decode cX2_unwind 100 = .ok (.aload_n 0, 1) := by decide +kernel
theorem dX2_unwind_101 : decode cX2_unwind 101 = .ok (.getfield 40, 3) := by decide +kernel
theorem dX2_unwind_104 : decode cX2_unwind 104 = .ok (.putfield 304, 3) := by decide +kernel
theorem dX2_unwind_107 : decode cX2_unwind 107 = .ok (.aload_n 0, 1) := by decide +kernel
theorem dX2_unwind_108 : decode cX2_unwind 108 = .ok (.getfield 67, 3) := by decide +kernel
theorem dX2_unwind_111 : decode cX2_unwind 111 = .ok (.aload_n 0, 1) := by decide +kernel
theorem dX2_unwind_112 : decode cX2_unwind 112 = .ok (.getfield 43, 3) := by decide +kernel
theorem dX2_unwind_115 : decode cX2_unwind 115 = .ok (.putfield 305, 3) := by decide +kernel
theorem dX2_unwind_118 : decode cX2_unwind 118 = .ok (.return_, 1) := by decide +kernel
theorem dX2_isWatched_0 : decode cX2_isWatched 0 = .ok (.aload_n 0, 1) := by decide +kernel
theorem dX2_isWatched_1 : decode cX2_isWatched 1 = .ok (.getfield 27, 3) := by decide +kernel
theorem dX2_isWatched_4 : decode cX2_isWatched 4 = .ok (.iconst 2, 1) := by decide +kernel
theorem dX2_isWatched_5 : decode cX2_isWatched 5 = .ok (.if_icmp .ne 20, 3) := by decide +kernel
theorem dX2_isWatched_8 : decode cX2_isWatched 8 = .ok (.aload_n 1, 1) := by decide +kernel
theorem dX2_isWatched_9 : decode cX2_isWatched 9 = .ok (.getfield 289, 3) := by decide +kernel
theorem dX2_isWatched_12 : decode cX2_isWatched 12 = .ok (.getfield 130, 3) := by decide +kernel
theorem dX2_isWatched_15 : decode cX2_isWatched 15 = .ok (.getfield 134, 3) := by decide +kernel
theorem dX2_isWatched_18 : decode cX2_isWatched 18 = .ok (.ifCond .eq 7, 3) := by decide +kernel
theorem dX2_isWatched_21 : decode cX2_isWatched 21 = .ok (.iconst 1, 1) := by decide +kernel
theorem dX2_isWatched_22 : decode cX2_isWatched 22 = .ok (.goto 4, 3) := by decide +kernel
theorem dX2_isWatched_25 : decode cX2_isWatched 25 = .ok (.iconst 0, 1) := by decide +kernel
theorem dX2_isWatched_26 : decode cX2_isWatched 26 = .ok (.ireturn, 1) := by decide +kernel
theorem dX2_isWatchedHere_0 : decode cX2_isWatchedHere 0 = .ok (.aload_n 0, 1) := by decide +kernel
theorem dX2_isWatchedHere_1 : decode cX2_isWatchedHere 1 = .ok (.aload_n 1, 1) := by decide +kernel
theorem dX2_isWatchedHere_2 : decode cX2_isWatchedHere 2 = .ok (.invokevirtual 306, 3) := by decide +kernel
theorem dX2_isWatchedHere_5 : decode cX2_isWatchedHere 5 = .ok (.ifCond .eq 24, 3) := by decide +kernel
theorem dX2_isWatchedHere_8 : decode cX2_isWatchedHere 8 = .ok (.aload_n 1, 1) := by decide +kernel
theorem dX2_isWatchedHere_9 : decode cX2_isWatchedHere 9 = .ok (.getfield 289, 3) := by decide +kernel
theorem dX2_isWatchedHere_12 : decode cX2_isWatchedHere 12 = .ok (.getfield 130, 3) := by decide +kernel
theorem dX2_isWatchedHere_15 : decode cX2_isWatchedHere 15 = .ok (.aload_n 1, 1) := by decide +kernel
theorem dX2_isWatchedHere_16 : decode cX2_isWatchedHere 16 = .ok (.getfield 150, 3) := by decide +kernel
theorem dX2_isWatchedHere_19 : decode cX2_isWatchedHere 19 = .ok (.invokevirtual 309, 3) := by decide +kernel
theorem dX2_isWatchedHere_22 : decode cX2_isWatchedHere 22 = .ok (.ifCond .eq 7, 3) := by decide +kernel
theorem dX2_isWatchedHere_25 : decode cX2_isWatchedHere 25 = .ok (.iconst 1, 1) := by decide +kernel
theorem dX2_isWatchedHere_26 : decode cX2_isWatchedHere 26 = .ok (.goto 4, 3) := by decide +kernel
theorem dX2_isWatchedHere_29 : decode cX2_isWatchedHere 29 = .ok (.iconst 0, 1) := by decide +kernel
theorem dX2_isWatchedHere_30 : decode cX2_isWatchedHere 30 = .ok (.ireturn, 1) := by decide +kernel
theorem dX2_noteAll_0 : decode cX2_noteAll 0 = .ok (.aload_n 0, 1) := by decide +kernel
theorem dX2_noteAll_1 : decode cX2_noteAll 1 = .ok (.aload_n 1, 1) := by decide +kernel
theorem dX2_noteAll_2 : decode cX2_noteAll 2 = .ok (.invokevirtual 306, 3) := by decide +kernel
theorem dX2_noteAll_5 : decode cX2_noteAll 5 = .ok (.ifCond .ne 4, 3) := by decide +kernel
theorem dX2_noteAll_8 : decode cX2_noteAll 8 = .ok (.return_, 1) := by decide +kernel
theorem dX2_noteAll_9 : decode cX2_noteAll 9 = .ok (.iconst 0, 1) := by decide +kernel
theorem dX2_noteAll_10 : decode cX2_noteAll 10 = .ok (.istore 5, 2) := by decide +kernel
theorem dX2_noteAll_12 : decode cX2_noteAll 12 = .ok (.iload 5, 2) := by decide +kernel
theorem dX2_noteAll_14 : decode cX2_noteAll 14 = .ok (.aload_n 1, 1) := by decide +kernel
theorem dX2_noteAll_15 : decode cX2_noteAll 15 = .ok (.getfield 289, 3) := by decide +kernel
theorem dX2_noteAll_18 : decode cX2_noteAll 18 = .ok (.getfield 130, 3) := by decide +kernel
theorem dX2_noteAll_21 : decode cX2_noteAll 21 = .ok (.getfield 312, 3) := by decide +kernel
theorem dX2_noteAll_24 : decode cX2_noteAll 24 = .ok (.if_icmp .ge 53, 3) := by decide +kernel
theorem dX2_noteAll_27 : decode cX2_noteAll 27 = .ok (.aload_n 0, 1) := by decide +kernel
theorem dX2_noteAll_28 : decode cX2_noteAll 28 = .ok (.getfield 63, 3) := by decide +kernel
theorem dX2_noteAll_31 : decode cX2_noteAll 31 = .ok (.iload 5, 2) := by decide +kernel
theorem dX2_noteAll_33 : decode cX2_noteAll 33 = .ok (.invokevirtual 315, 3) := by decide +kernel
theorem dX2_noteAll_36 : decode cX2_noteAll 36 = .ok (.iload_n 2, 1) := by decide +kernel
theorem dX2_noteAll_37 : decode cX2_noteAll 37 = .ok (.if_icmp .ne 34, 3) := by decide +kernel
theorem dX2_noteAll_40 : decode cX2_noteAll 40 = .ok (.aload_n 0, 1) := by decide +kernel
theorem dX2_noteAll_41 : decode cX2_noteAll 41 = .ok (.getfield 63, 3) := by decide +kernel
theorem dX2_noteAll_44 : decode cX2_noteAll 44 = .ok (.iload 5, 2) := by decide +kernel
theorem dX2_noteAll_46 : decode cX2_noteAll 46 = .ok (.aload_n 1, 1) := by decide +kernel
theorem dX2_noteAll_47 : decode cX2_noteAll 47 = .ok (.getfield 289, 3) := by decide +kernel
theorem dX2_noteAll_50 : decode cX2_noteAll 50 = .ok (.getfield 293, 3) := by decide +kernel
theorem dX2_noteAll_53 : decode cX2_noteAll 53 = .ok (.iload_n 3, 1) := by decide +kernel
theorem dX2_noteAll_54 : decode cX2_noteAll 54 = .ok (.invokevirtual 320, 3) := by decide +kernel
theorem dX2_noteAll_57 : decode cX2_noteAll 57 = .ok (.ifCond .eq 14, 3) := by decide +kernel
theorem dX2_noteAll_60 : decode cX2_noteAll 60 = .ok (.aload_n 0, 1) := by decide +kernel
theorem dX2_noteAll_61 : decode cX2_noteAll 61 = .ok (.getfield 67, 3) := by decide +kernel
theorem dX2_noteAll_64 : decode cX2_noteAll 64 = .ok (.iload 5, 2) := by decide +kernel
theorem dX2_noteAll_66 : decode cX2_noteAll 66 = .ok (.iload 4, 2) := by decide +kernel
theorem dX2_noteAll_68 : decode cX2_noteAll 68 = .ok (.invokevirtual 324, 3) := by decide +kernel
theorem dX2_noteAll_71 : decode cX2_noteAll 71 = .ok (.iinc 5 1, 3) := by decide +kernel
theorem dX2_noteAll_74 : decode cX2_noteAll 74 = .ok (.goto (-62), 3) := by decide +kernel
theorem dX2_noteAll_77 : decode cX2_noteAll 77 = .ok (.return_, 1) := by decide +kernel
theorem dX2_noteEnter_0 : decode cX2_noteEnter 0 = .ok (.aload_n 0, 1) := by decide +kernel
theorem dX2_noteEnter_1 : decode cX2_noteEnter 1 = .ok (.aload_n 1, 1) := by decide +kernel
theorem dX2_noteEnter_2 : decode cX2_noteEnter 2 = .ok (.invokevirtual 306, 3) := by decide +kernel
theorem dX2_noteEnter_5 : decode cX2_noteEnter 5 = .ok (.ifCond .ne 4, 3) := by decide +kernel
theorem dX2_noteEnter_8 : decode cX2_noteEnter 8 = .ok (.return_, 1) := by decide +kernel
theorem dX2_noteEnter_9 : decode cX2_noteEnter 9 = .ok (.iconst 0, 1) := by decide +kernel
theorem dX2_noteEnter_10 : decode cX2_noteEnter 10 = .ok (.istore_n 2, 1) := by decide +kernel
theorem dX2_noteEnter_11 : decode cX2_noteEnter 11 = .ok (.iload_n 2, 1) := by decide +kernel
theorem dX2_noteEnter_12 : decode cX2_noteEnter 12 = .ok (.aload_n 1, 1) := by decide +kernel
theorem dX2_noteEnter_13 : decode cX2_noteEnter 13 = .ok (.getfield 289, 3) := by decide +kernel
theorem dX2_noteEnter_16 : decode cX2_noteEnter 16 = .ok (.getfield 130, 3) := by decide +kernel
theorem dX2_noteEnter_19 : decode cX2_noteEnter 19 = .ok (.getfield 312, 3) := by decide +kernel
theorem dX2_noteEnter_22 : decode cX2_noteEnter 22 = .ok (.if_icmp .ge 46, 3) := by decide +kernel
theorem dX2_noteEnter_25 : decode cX2_noteEnter 25 = .ok (.aload_n 0, 1) := by decide +kernel
theorem dX2_noteEnter_26 : decode cX2_noteEnter 26 = .ok (.getfield 63, 3) := by decide +kernel
theorem dX2_noteEnter_29 : decode cX2_noteEnter 29 = .ok (.iload_n 2, 1) := by decide +kernel
theorem dX2_noteEnter_30 : decode cX2_noteEnter 30 = .ok (.invokevirtual 315, 3) := by decide +kernel
theorem dX2_noteEnter_33 : decode cX2_noteEnter 33 = .ok (.iconst 2, 1) := by decide +kernel
theorem dX2_noteEnter_34 : decode cX2_noteEnter 34 = .ok (.if_icmp .ne 28, 3) := by decide +kernel
theorem dX2_noteEnter_37 : decode cX2_noteEnter 37 = .ok (.aload_n 0, 1) := by decide +kernel
theorem dX2_noteEnter_38 : decode cX2_noteEnter 38 = .ok (.getfield 63, 3) := by decide +kernel
theorem dX2_noteEnter_41 : decode cX2_noteEnter 41 = .ok (.iload_n 2, 1) := by decide +kernel
theorem dX2_noteEnter_42 : decode cX2_noteEnter 42 = .ok (.aload_n 1, 1) := by decide +kernel
theorem dX2_noteEnter_43 : decode cX2_noteEnter 43 = .ok (.getfield 289, 3) := by decide +kernel
theorem dX2_noteEnter_46 : decode cX2_noteEnter 46 = .ok (.getfield 293, 3) := by decide +kernel
theorem dX2_noteEnter_49 : decode cX2_noteEnter 49 = .ok (.iconst 0, 1) := by decide +kernel
theorem dX2_noteEnter_50 : decode cX2_noteEnter 50 = .ok (.invokevirtual 320, 3) := by decide +kernel
theorem dX2_noteEnter_53 : decode cX2_noteEnter 53 = .ok (.ifCond .eq 9, 3) := by decide +kernel
theorem dX2_noteEnter_56 : decode cX2_noteEnter 56 = .ok (.aload_n 0, 1) := by decide +kernel
theorem dX2_noteEnter_57 : decode cX2_noteEnter 57 = .ok (.aload_n 1, 1) := by decide +kernel
theorem dX2_noteEnter_58 : decode cX2_noteEnter 58 = .ok (.iload_n 2, 1) := by decide +kernel
theorem dX2_noteEnter_59 : decode cX2_noteEnter 59 = .ok (.invokevirtual 327, 3) := by decide +kernel
theorem dX2_noteEnter_62 : decode cX2_noteEnter 62 = .ok (.iinc 2 1, 3) := by decide +kernel
theorem dX2_noteEnter_65 : decode cX2_noteEnter 65 = .ok (.goto (-54), 3) := by decide +kernel
theorem dX2_noteEnter_68 : decode cX2_noteEnter 68 = .ok (.return_, 1) := by decide +kernel
theorem dX2_noteArguments_0 : decode cX2_noteArguments 0 = .ok (.iconst 0, 1) := by decide +kernel
theorem dX2_noteArguments_1 : decode cX2_noteArguments 1 = .ok (.istore_n 3, 1) := by decide +kernel
theorem dX2_noteArguments_2 : decode cX2_noteArguments 2 = .ok (.iload_n 3, 1) := by decide +kernel
theorem dX2_noteArguments_3 : decode cX2_noteArguments 3 = .ok (.aload_n 1, 1) := by decide +kernel
theorem dX2_noteArguments_4 : decode cX2_noteArguments 4 = .ok (.getfield 289, 3) := by decide +kernel
theorem dX2_noteArguments_7 : decode cX2_noteArguments 7 = .ok (.getfield 92, 3) := by decide +kernel
theorem dX2_noteArguments_10 : decode cX2_noteArguments 10 = .ok (.if_icmp .ge 29, 3) := by decide +kernel
theorem dX2_noteArguments_13 : decode cX2_noteArguments 13 = .ok (.iload_n 3, 1) := by decide +kernel
theorem dX2_noteArguments_14 : decode cX2_noteArguments 14 = .ok (.bipush 12, 2) := by decide +kernel
theorem dX2_noteArguments_16 : decode cX2_noteArguments 16 = .ok (.if_icmp .ge 23, 3) := by decide +kernel
theorem dX2_noteArguments_19 : decode cX2_noteArguments 19 = .ok (.aload_n 0, 1) := by decide +kernel
theorem dX2_noteArguments_20 : decode cX2_noteArguments 20 = .ok (.getfield 67, 3) := by decide +kernel
theorem dX2_noteArguments_23 : decode cX2_noteArguments 23 = .ok (.iload_n 2, 1) := by decide +kernel
theorem dX2_noteArguments_24 : decode cX2_noteArguments 24 = .ok (.aload_n 1, 1) := by decide +kernel
theorem dX2_noteArguments_25 : decode cX2_noteArguments 25 = .ok (.getfield 330, 3) := by decide +kernel
theorem dX2_noteArguments_28 : decode cX2_noteArguments 28 = .ok (.iload_n 3, 1) := by decide +kernel
theorem dX2_noteArguments_29 : decode cX2_noteArguments 29 = .ok (.iaload, 1) := by decide +kernel
theorem dX2_noteArguments_30 : decode cX2_noteArguments 30 = .ok (.invokevirtual 324, 3) := by decide +kernel
theorem dX2_noteArguments_33 : decode cX2_noteArguments 33 = .ok (.iinc 3 1, 3) := by decide +kernel
theorem dX2_noteArguments_36 : decode cX2_noteArguments 36 = .ok (.goto (-34), 3) := by decide +kernel
theorem dX2_noteArguments_39 : decode cX2_noteArguments 39 = .ok (.aload_n 1, 1) := by decide +kernel
theorem dX2_noteArguments_40 : decode cX2_noteArguments 40 = .ok (.getfield 289, 3) := by decide +kernel
theorem dX2_noteArguments_43 : decode cX2_noteArguments 43 = .ok (.getfield 92, 3) := by decide +kernel
theorem dX2_noteArguments_46 : decode cX2_noteArguments 46 = .ok (.ifCond .ne 12, 3) := by decide +kernel
theorem dX2_noteArguments_49 : decode cX2_noteArguments 49 = .ok (.aload_n 0, 1) := by decide +kernel
theorem dX2_noteArguments_50 : decode cX2_noteArguments 50 = .ok (.getfield 67, 3) := by decide +kernel
theorem dX2_noteArguments_53 : decode cX2_noteArguments 53 = .ok (.iload_n 2, 1) := by decide +kernel
theorem dX2_noteArguments_54 : decode cX2_noteArguments 54 = .ok (.iconst 0, 1) := by decide +kernel
theorem dX2_noteArguments_55 : decode cX2_noteArguments 55 = .ok (.invokevirtual 324, 3) := by decide +kernel
theorem dX2_noteArguments_58 : decode cX2_noteArguments 58 = .ok (.return_, 1) := by decide +kernel
theorem dX2_passAhead_0 : decode cX2_passAhead 0 = .ok (.iconst 0, 1) := by decide +kernel
theorem dX2_passAhead_1 : decode cX2_passAhead 1 = .ok (.istore_n 3, 1) := by decide +kernel
theorem dX2_passAhead_2 : decode cX2_passAhead 2 = .ok (.iload_n 3, 1) := by decide +kernel
theorem dX2_passAhead_3 : decode cX2_passAhead 3 = .ok (.aload_n 1, 1) := by decide +kernel
theorem dX2_passAhead_4 : decode cX2_passAhead 4 = .ok (.getfield 289, 3) := by decide +kernel
theorem dX2_passAhead_7 : decode cX2_passAhead 7 = .ok (.getfield 130, 3) := by decide +kernel
theorem dX2_passAhead_10 : decode cX2_passAhead 10 = .ok (.getfield 312, 3) := by decide +kernel
theorem dX2_passAhead_13 : decode cX2_passAhead 13 = .ok (.if_icmp .ge 80, 3) := by decide +kernel
theorem dX2_passAhead_16 : decode cX2_passAhead 16 = .ok (.aload_n 0, 1) := by decide +kernel
theorem dX2_passAhead_17 : decode cX2_passAhead 17 = .ok (.getfield 37, 3) := by decide +kernel
theorem dX2_passAhead_20 : decode cX2_passAhead 20 = .ok (.ifCond .ne 73, 3) := by decide +kernel
theorem dX2_passAhead_23 : decode cX2_passAhead 23 = .ok (.aload_n 0, 1) := by decide +kernel
theorem dX2_passAhead_24 : decode cX2_passAhead 24 = .ok (.getfield 63, 3) := by decide +kernel
theorem dX2_passAhead_27 : decode cX2_passAhead 27 = .ok (.iload_n 3, 1) := by decide +kernel
theorem dX2_passAhead_28 : decode cX2_passAhead 28 = .ok (.aload_n 1, 1) := by decide +kernel
theorem dX2_passAhead_29 : decode cX2_passAhead 29 = .ok (.getfield 289, 3) := by decide +kernel
theorem dX2_passAhead_32 : decode cX2_passAhead 32 = .ok (.getfield 293, 3) := by decide +kernel
theorem dX2_passAhead_35 : decode cX2_passAhead 35 = .ok (.aload_n 1, 1) := by decide +kernel
theorem dX2_passAhead_36 : decode cX2_passAhead 36 = .ok (.getfield 150, 3) := by decide +kernel
theorem dX2_passAhead_39 : decode cX2_passAhead 39 = .ok (.invokevirtual 320, 3) := by decide +kernel
theorem dX2_passAhead_42 : decode cX2_passAhead 42 = .ok (.ifCond .eq 45, 3) := by decide +kernel
theorem dX2_passAhead_45 : decode cX2_passAhead 45 = .ok (.aload_n 0, 1) := by decide +kernel
theorem dX2_passAhead_46 : decode cX2_passAhead 46 = .ok (.getfield 63, 3) := by decide +kernel
theorem dX2_passAhead_49 : decode cX2_passAhead 49 = .ok (.iload_n 3, 1) := by decide +kernel
theorem dX2_passAhead_50 : decode cX2_passAhead 50 = .ok (.invokevirtual 315, 3) := by decide +kernel
theorem dX2_passAhead_53 : decode cX2_passAhead 53 = .ok (.ifCond .ne 15, 3) := by decide +kernel
theorem dX2_passAhead_56 : decode cX2_passAhead 56 = .ok (.aload_n 0, 1) := by decide +kernel
theorem dX2_passAhead_57 : decode cX2_passAhead 57 = .ok (.getfield 67, 3) := by decide +kernel
theorem dX2_passAhead_60 : decode cX2_passAhead 60 = .ok (.iload_n 3, 1) := by decide +kernel
theorem dX2_passAhead_61 : decode cX2_passAhead 61 = .ok (.iconst 0, 1) := by decide +kernel
theorem dX2_passAhead_62 : decode cX2_passAhead 62 = .ok (.invokevirtual 324, 3) := by decide +kernel
theorem dX2_passAhead_65 : decode cX2_passAhead 65 = .ok (.goto 22, 3) := by decide +kernel
theorem dX2_passAhead_68 : decode cX2_passAhead 68 = .ok (.aload_n 0, 1) := by decide +kernel
theorem dX2_passAhead_69 : decode cX2_passAhead 69 = .ok (.getfield 63, 3) := by decide +kernel
theorem dX2_passAhead_72 : decode cX2_passAhead 72 = .ok (.iload_n 3, 1) := by decide +kernel
theorem dX2_passAhead_73 : decode cX2_passAhead 73 = .ok (.invokevirtual 315, 3) := by decide +kernel
theorem dX2_passAhead_76 : decode cX2_passAhead 76 = .ok (.bipush 6, 2) := by decide +kernel
theorem dX2_passAhead_78 : decode cX2_passAhead 78 = .ok (.if_icmp .ne 9, 3) := by decide +kernel
theorem dX2_passAhead_81 : decode cX2_passAhead 81 = .ok (.aload_n 0, 1) := by decide +kernel
theorem dX2_passAhead_82 : decode cX2_passAhead 82 = .ok (.aload_n 1, 1) := by decide +kernel
theorem dX2_passAhead_83 : decode cX2_passAhead 83 = .ok (.iload_n 3, 1) := by decide +kernel
theorem dX2_passAhead_84 : decode cX2_passAhead 84 = .ok (.invokevirtual 333, 3) := by decide +kernel
theorem dX2_passAhead_87 : decode cX2_passAhead 87 = .ok (.iinc 3 1, 3) := by decide +kernel
theorem dX2_passAhead_90 : decode cX2_passAhead 90 = .ok (.goto (-88), 3) := by decide +kernel
theorem dX2_passAhead_93 : decode cX2_passAhead 93 = .ok (.aload_n 0, 1) := by decide +kernel
theorem dX2_passAhead_94 : decode cX2_passAhead 94 = .ok (.getfield 37, 3) := by decide +kernel
theorem dX2_passAhead_97 : decode cX2_passAhead 97 = .ok (.ifCond .eq 4, 3) := by decide +kernel
theorem dX2_passAhead_100 : decode cX2_passAhead 100 = .ok (.return_, 1) := by decide +kernel
theorem dX2_passAhead_101 : decode cX2_passAhead 101 = .ok (.iload_n 2, 1) := by decide +kernel
theorem dX2_passAhead_102 : decode cX2_passAhead 102 = .ok (.bipush 42, 2) := by decide +kernel
theorem dX2_passAhead_104 : decode cX2_passAhead 104 = .ok (.if_icmp .ne 18, 3) := by decide +kernel
theorem dX2_passAhead_107 : decode cX2_passAhead 107 = .ok (.aload_n 0, 1) := by decide +kernel
theorem dX2_passAhead_108 : decode cX2_passAhead 108 = .ok (.aload_n 1, 1) := by decide +kernel
theorem dX2_passAhead_109 : decode cX2_passAhead 109 = .ok (.iconst 3, 1) := by decide +kernel
theorem dX2_passAhead_110 : decode cX2_passAhead 110 = .ok (.iconst 0, 1) := by decide +kernel
theorem dX2_passAhead_111 : decode cX2_passAhead 111 = .ok (.aload_n 1, 1) := by decide +kernel
theorem dX2_passAhead_112 : decode cX2_passAhead 112 = .ok (.iconst 0, 1) := by decide +kernel
theorem dX2_passAhead_113 : decode cX2_passAhead 113 = .ok (.invokevirtual 243, 3) := by decide +kernel
theorem dX2_passAhead_116 : decode cX2_passAhead 116 = .ok (.invokevirtual 300, 3) := by decide +kernel
theorem dX2_passAhead_119 : decode cX2_passAhead 119 = .ok (.goto 20, 3) := by decide +kernel
theorem dX2_passAhead_122 : decode cX2_passAhead 122 = .ok (.iload_n 2, 1) := by decide +kernel
theorem dX2_passAhead_123 : decode cX2_passAhead 123 = .ok (.bipush 35, 2) := by decide +kernel
theorem dX2_passAhead_125 : decode cX2_passAhead 125 = .ok (.if_icmp .eq 9, 3) := by decide +kernel
theorem dX2_passAhead_128 : decode cX2_passAhead 128 = .ok (.iload_n 2, 1) := by decide +kernel
theorem dX2_passAhead_129 : decode cX2_passAhead 129 = .ok (.bipush 39, 2) := by decide +kernel
theorem dX2_passAhead_131 : decode cX2_passAhead 131 = .ok (.if_icmp .ne 8, 3) := by decide +kernel
theorem dX2_passAhead_134 : decode cX2_passAhead 134 = .ok (.aload_n 0, 1) := by decide +kernel
theorem dX2_passAhead_135 : decode cX2_passAhead 135 = .ok (.aload_n 1, 1) := by decide +kernel
theorem dX2_passAhead_136 : decode cX2_passAhead 136 = .ok (.invokevirtual 336, 3) := by decide +kernel
theorem dX2_passAhead_139 : decode cX2_passAhead 139 = .ok (.return_, 1) := by decide +kernel
theorem dX2_passBehind_0 : decode cX2_passBehind 0 = .ok (.aload_n 0, 1) := by decide +kernel
theorem dX2_passBehind_1 : decode cX2_passBehind 1 = .ok (.aload_n 1, 1) := by decide +kernel
theorem dX2_passBehind_2 : decode cX2_passBehind 2 = .ok (.invokevirtual 195, 3) := by decide +kernel
theorem dX2_passBehind_5 : decode cX2_passBehind 5 = .ok (.ifCond .ne 4, 3) := by decide +kernel
theorem dX2_passBehind_8 : decode cX2_passBehind 8 = .ok (.return_, 1) := by decide +kernel
theorem dX2_passBehind_9 : decode cX2_passBehind 9 = .ok (.iconst 0, 1) := by decide +kernel
theorem dX2_passBehind_10 : decode cX2_passBehind 10 = .ok (.istore_n 2, 1) := by decide +kernel
theorem dX2_passBehind_11 : decode cX2_passBehind 11 = .ok (.iload_n 2, 1) := by decide +kernel
theorem dX2_passBehind_12 : decode cX2_passBehind 12 = .ok (.aload_n 1, 1) := by decide +kernel
theorem dX2_passBehind_13 : decode cX2_passBehind 13 = .ok (.getfield 289, 3) := by decide +kernel
theorem dX2_passBehind_16 : decode cX2_passBehind 16 = .ok (.getfield 130, 3) := by decide +kernel
theorem dX2_passBehind_19 : decode cX2_passBehind 19 = .ok (.getfield 312, 3) := by decide +kernel
theorem dX2_passBehind_22 : decode cX2_passBehind 22 = .ok (.if_icmp .ge 112, 3) := by decide +kernel
theorem dX2_passBehind_25 : decode cX2_passBehind 25 = .ok (.aload_n 0, 1) := by decide +kernel
theorem dX2_passBehind_26 : decode cX2_passBehind 26 = .ok (.getfield 63, 3) := by decide +kernel
theorem dX2_passBehind_29 : decode cX2_passBehind 29 = .ok (.iload_n 2, 1) := by decide +kernel
theorem dX2_passBehind_30 : decode cX2_passBehind 30 = .ok (.aload_n 1, 1) := by decide +kernel
theorem dX2_passBehind_31 : decode cX2_passBehind 31 = .ok (.getfield 289, 3) := by decide +kernel
theorem dX2_passBehind_34 : decode cX2_passBehind 34 = .ok (.getfield 293, 3) := by decide +kernel
theorem dX2_passBehind_37 : decode cX2_passBehind 37 = .ok (.aload_n 1, 1) := by decide +kernel
theorem dX2_passBehind_38 : decode cX2_passBehind 38 = .ok (.getfield 150, 3) := by decide +kernel
theorem dX2_passBehind_41 : decode cX2_passBehind 41 = .ok (.invokevirtual 320, 3) := by decide +kernel
theorem dX2_passBehind_44 : decode cX2_passBehind 44 = .ok (.ifCond .eq 84, 3) := by decide +kernel
theorem dX2_passBehind_47 : decode cX2_passBehind 47 = .ok (.aload_n 0, 1) := by decide +kernel
theorem dX2_passBehind_48 : decode cX2_passBehind 48 = .ok (.getfield 63, 3) := by decide +kernel
theorem dX2_passBehind_51 : decode cX2_passBehind 51 = .ok (.iload_n 2, 1) := by decide +kernel
theorem dX2_passBehind_52 : decode cX2_passBehind 52 = .ok (.invokevirtual 315, 3) := by decide +kernel
theorem dX2_passBehind_55 : decode cX2_passBehind 55 = .ok (.lookupswitch 73 #[(1, 33), (4, 56), (7, 64)], 33) := by decide +kernel
theorem dX2_passBehind_88 : decode cX2_passBehind 88 = .ok (.aload_n 0, 1) := by decide +kernel
theorem dX2_passBehind_89 : decode cX2_passBehind 89 = .ok (.getfield 67, 3) := by decide +kernel
theorem dX2_passBehind_92 : decode cX2_passBehind 92 = .ok (.iload_n 2, 1) := by decide +kernel
theorem dX2_passBehind_93 : decode cX2_passBehind 93 = .ok (.aload_n 0, 1) := by decide +kernel
theorem dX2_passBehind_94 : decode cX2_passBehind 94 = .ok (.getfield 52, 3) := by decide +kernel
theorem dX2_passBehind_97 : decode cX2_passBehind 97 = .ok (.ifCond .eq 7, 3) := by decide +kernel
theorem dX2_passBehind_100 : decode cX2_passBehind 100 = .ok (.iconst 1, 1) := by decide +kernel
theorem dX2_passBehind_101 : decode cX2_passBehind 101 = .ok (.goto 4, 3) := by decide +kernel
theorem dX2_passBehind_104 : decode cX2_passBehind 104 = .ok (.iconst 0, 1) := by decide +kernel
theorem dX2_passBehind_105 : decode cX2_passBehind 105 = .ok (.invokevirtual 324, 3) := by decide +kernel
theorem dX2_passBehind_108 : decode cX2_passBehind 108 = .ok (.goto 20, 3) := by decide +kernel
theorem dX2_passBehind_111 : decode cX2_passBehind 111 = .ok (.aload_n 0, 1) := by decide +kernel
theorem dX2_passBehind_112 : decode cX2_passBehind 112 = .ok (.iload_n 2, 1) := by decide +kernel
theorem dX2_passBehind_113 : decode cX2_passBehind 113 = .ok (.invokevirtual 339, 3) := by decide +kernel
theorem dX2_passBehind_116 : decode cX2_passBehind 116 = .ok (.goto 12, 3) := by decide +kernel
theorem dX2_passBehind_119 : decode cX2_passBehind 119 = .ok (.aload_n 0, 1) := by decide +kernel
theorem dX2_passBehind_120 : decode cX2_passBehind 120 = .ok (.aload_n 1, 1) := by decide +kernel
theorem dX2_passBehind_121 : decode cX2_passBehind 121 = .ok (.iload_n 2, 1) := by decide +kernel
theorem dX2_passBehind_122 : decode cX2_passBehind 122 = .ok (.invokevirtual 342, 3) := by decide +kernel
theorem dX2_passBehind_125 : decode cX2_passBehind 125 = .ok (.goto 3, 3) := by decide +kernel
theorem dX2_passBehind_128 : decode cX2_passBehind 128 = .ok (.iinc 2 1, 3) := by decide +kernel
theorem dX2_passBehind_131 : decode cX2_passBehind 131 = .ok (.goto (-120), 3) := by decide +kernel
theorem dX2_passBehind_134 : decode cX2_passBehind 134 = .ok (.return_, 1) := by decide +kernel
theorem dX2_passFault_0 : decode cX2_passFault 0 = .ok (.iload_n 2, 1) := by decide +kernel
theorem dX2_passFault_1 : decode cX2_passFault 1 = .ok (.ifCond .lt 9, 3) := by decide +kernel
theorem dX2_passFault_4 : decode cX2_passFault 4 = .ok (.iload_n 2, 1) := by decide +kernel
theorem dX2_passFault_5 : decode cX2_passFault 5 = .ok (.bipush 24, 2) := by decide +kernel
theorem dX2_passFault_7 : decode cX2_passFault 7 = .ok (.if_icmp .lt 4, 3) := by decide +kernel
theorem dX2_passFault_10 : decode cX2_passFault 10 = .ok (.return_, 1) := by decide +kernel
theorem dX2_passFault_11 : decode cX2_passFault 11 = .ok (.aload_n 0, 1) := by decide +kernel
theorem dX2_passFault_12 : decode cX2_passFault 12 = .ok (.getfield 24, 3) := by decide +kernel
theorem dX2_passFault_15 : decode cX2_passFault 15 = .ok (.iload_n 2, 1) := by decide +kernel
theorem dX2_passFault_16 : decode cX2_passFault 16 = .ok (.dup2, 1) := by decide +kernel
theorem dX2_passFault_17 : decode cX2_passFault 17 = .ok (.iaload, 1) := by decide +kernel
theorem dX2_passFault_18 : decode cX2_passFault 18 = .ok (.iconst 1, 1) := by decide +kernel
theorem dX2_passFault_19 : decode cX2_passFault 19 = .ok (.iadd, 1) := by decide +kernel
theorem dX2_passFault_20 : decode cX2_passFault 20 = .ok (.iastore, 1) := by decide +kernel
theorem dX2_passFault_21 : decode cX2_passFault 21 = .ok (.aload_n 0, 1) := by decide +kernel
theorem dX2_passFault_22 : decode cX2_passFault 22 = .ok (.getfield 24, 3) := by decide +kernel
theorem dX2_passFault_25 : decode cX2_passFault 25 = .ok (.iload_n 2, 1) := by decide +kernel
theorem dX2_passFault_26 : decode cX2_passFault 26 = .ok (.iaload, 1) := by decide +kernel
theorem dX2_passFault_27 : decode cX2_passFault 27 = .ok (.aload_n 0, 1) := by decide +kernel
theorem dX2_passFault_28 : decode cX2_passFault 28 = .ok (.getfield 63, 3) := by decide +kernel
theorem dX2_passFault_31 : decode cX2_passFault 31 = .ok (.iload_n 2, 1) := by decide +kernel
theorem dX2_passFault_32 : decode cX2_passFault 32 = .ok (.invokevirtual 345, 3) := by decide +kernel
theorem dX2_passFault_35 : decode cX2_passFault 35 = .ok (.if_icmp .ne 16, 3) := by decide +kernel
theorem dX2_passFault_38 : decode cX2_passFault 38 = .ok (.aload_n 0, 1) := by decide +kernel
theorem dX2_passFault_39 : decode cX2_passFault 39 = .ok (.aload_n 1, 1) := by decide +kernel
theorem dX2_passFault_40 : decode cX2_passFault 40 = .ok (.aload_n 0, 1) := by decide +kernel
theorem dX2_passFault_41 : decode cX2_passFault 41 = .ok (.getfield 63, 3) := by decide +kernel
theorem dX2_passFault_44 : decode cX2_passFault 44 = .ok (.iload_n 2, 1) := by decide +kernel
theorem dX2_passFault_45 : decode cX2_passFault 45 = .ok (.invokevirtual 348, 3) := by decide +kernel
theorem dX2_passFault_48 : decode cX2_passFault 48 = .ok (.invokevirtual 218, 3) := by decide +kernel
theorem dX2_passFault_51 : decode cX2_passFault 51 = .ok (.return_, 1) := by decide +kernel
theorem dX2_keepOld_0 : decode cX2_keepOld 0 = .ok (.aload_n 1, 1) := by decide +kernel
theorem dX2_keepOld_1 : decode cX2_keepOld 1 = .ok (.getfield 289, 3) := by decide +kernel
theorem dX2_keepOld_4 : decode cX2_keepOld 4 = .ok (.getfield 351, 3) := by decide +kernel
theorem dX2_keepOld_7 : decode cX2_keepOld 7 = .ok (.astore_n 2, 1) := by decide +kernel
theorem dX2_keepOld_8 : decode cX2_keepOld 8 = .ok (.aload_n 0, 1) := by decide +kernel
theorem dX2_keepOld_9 : decode cX2_keepOld 9 = .ok (.aload_n 2, 1) := by decide +kernel
theorem dX2_keepOld_10 : decode cX2_keepOld 10 = .ok (.aload_n 0, 1) := by decide +kernel
theorem dX2_keepOld_11 : decode cX2_keepOld 11 = .ok (.getfield 56, 3) := by decide +kernel
theorem dX2_keepOld_14 : decode cX2_keepOld 14 = .ok (.invokestatic 153, 3) := by decide +kernel
