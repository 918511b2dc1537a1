section
-- ===== PART A: goes FIRST, ahead of the names: the tables' words, and 'selects' of the private methods out of them =====
/-- a private method of a class that the tables say can be made, by its rows of tables_1 -/
def lw_okq (q : MethodName × Nat) : Prop := (q.1.cls ≠ "java/lang/invoke/MethodHandle" ∧ q.1.cls ≠ "java/lang/invoke/VarHandle") ∧ Cond.instantiable q.1.cls q.2 ∈ tables_1 ∧ Cond.privateMethod q.1 ∈ tables_1 ∧ Cond.instanceMethod q.1 ∈ tables_1
theorem lw_p0 : lw_okq (⟨"ProbeLoom", "appendWord", "(I)V"⟩, 12) := ⟨⟨by decide +kernel, by decide +kernel⟩, List.mem_of_getElem? (i := 16) (by decide +kernel), List.mem_of_getElem? (i := 474) (by decide +kernel), List.mem_of_getElem? (i := 475) (by decide +kernel)⟩
theorem lw_p1 : lw_okq (⟨"ProbeLoom", "findFault", "(LProbeLoom$Method;I)I"⟩, 12) := ⟨⟨by decide +kernel, by decide +kernel⟩, List.mem_of_getElem? (i := 16) (by decide +kernel), List.mem_of_getElem? (i := 486) (by decide +kernel), List.mem_of_getElem? (i := 487) (by decide +kernel)⟩
theorem lw_p2 : lw_okq (⟨"ProbeLoom$Reader", "headFault", "(LProbeLoom$Method;)I"⟩, 2) := ⟨⟨by decide +kernel, by decide +kernel⟩, List.mem_of_getElem? (i := 24) (by decide +kernel), List.mem_of_getElem? (i := 497) (by decide +kernel), List.mem_of_getElem? (i := 498) (by decide +kernel)⟩
theorem lw_p3 : lw_okq (⟨"ProbeLoom$Reader", "codeFault", "(LProbeLoom$Method;)I"⟩, 2) := ⟨⟨by decide +kernel, by decide +kernel⟩, List.mem_of_getElem? (i := 24) (by decide +kernel), List.mem_of_getElem? (i := 504) (by decide +kernel), List.mem_of_getElem? (i := 505) (by decide +kernel)⟩
theorem lw_p4 : lw_okq (⟨"ProbeLoom$Reader", "instructionFault", "(LProbeLoom$Method;I)I"⟩, 2) := ⟨⟨by decide +kernel, by decide +kernel⟩, List.mem_of_getElem? (i := 24) (by decide +kernel), List.mem_of_getElem? (i := 511) (by decide +kernel), List.mem_of_getElem? (i := 512) (by decide +kernel)⟩
theorem lw_p5 : lw_okq (⟨"ProbeLoom$Reader", "tableFault", "(LProbeLoom$Method;I)I"⟩, 2) := ⟨⟨by decide +kernel, by decide +kernel⟩, List.mem_of_getElem? (i := 24) (by decide +kernel), List.mem_of_getElem? (i := 523) (by decide +kernel), List.mem_of_getElem? (i := 524) (by decide +kernel)⟩
theorem lw_p6 : lw_okq (⟨"ProbeLoom$Reader", "tailFault", "(LProbeLoom$Method;)I"⟩, 2) := ⟨⟨by decide +kernel, by decide +kernel⟩, List.mem_of_getElem? (i := 24) (by decide +kernel), List.mem_of_getElem? (i := 542) (by decide +kernel), List.mem_of_getElem? (i := 543) (by decide +kernel)⟩
theorem lw_p7 : lw_okq (⟨"ProbeLoom$Reader", "readHandler", "([III)V"⟩, 2) := ⟨⟨by decide +kernel, by decide +kernel⟩, List.mem_of_getElem? (i := 24) (by decide +kernel), List.mem_of_getElem? (i := 546) (by decide +kernel), List.mem_of_getElem? (i := 547) (by decide +kernel)⟩
theorem lw_p8 : lw_okq (⟨"ProbeLoom$Method", "jumpsAstray", "(I)Z"⟩, 11) := ⟨⟨by decide +kernel, by decide +kernel⟩, List.mem_of_getElem? (i := 123) (by decide +kernel), List.mem_of_getElem? (i := 558) (by decide +kernel), List.mem_of_getElem? (i := 559) (by decide +kernel)⟩
theorem lw_p9 : lw_okq (⟨"ProbeLoom$Judge", "comeTo", "(LProbeLoom$Method;III)V"⟩, 6) := ⟨⟨by decide +kernel, by decide +kernel⟩, List.mem_of_getElem? (i := 38) (by decide +kernel), List.mem_of_getElem? (i := 590) (by decide +kernel), List.mem_of_getElem? (i := 591) (by decide +kernel)⟩
theorem lw_p10 : lw_okq (⟨"ProbeLoom$Judge", "putInLine", "(I)V"⟩, 6) := ⟨⟨by decide +kernel, by decide +kernel⟩, List.mem_of_getElem? (i := 38) (by decide +kernel), List.mem_of_getElem? (i := 595) (by decide +kernel), List.mem_of_getElem? (i := 596) (by decide +kernel)⟩
theorem lw_p11 : lw_okq (⟨"ProbeLoom$Judge", "goFrom", "(LProbeLoom$Method;I[LProbeLoom$Method;)V"⟩, 6) := ⟨⟨by decide +kernel, by decide +kernel⟩, List.mem_of_getElem? (i := 38) (by decide +kernel), List.mem_of_getElem? (i := 599) (by decide +kernel), List.mem_of_getElem? (i := 600) (by decide +kernel)⟩
theorem lw_p12 : lw_okq (⟨"ProbeLoom$Judge", "doOp", "(II[LProbeLoom$Method;)V"⟩, 6) := ⟨⟨by decide +kernel, by decide +kernel⟩, List.mem_of_getElem? (i := 38) (by decide +kernel), List.mem_of_getElem? (i := 609) (by decide +kernel), List.mem_of_getElem? (i := 610) (by decide +kernel)⟩
theorem lw_p13 : lw_okq (⟨"ProbeLoom$Judge", "loadType", "(I)V"⟩, 6) := ⟨⟨by decide +kernel, by decide +kernel⟩, List.mem_of_getElem? (i := 38) (by decide +kernel), List.mem_of_getElem? (i := 613) (by decide +kernel), List.mem_of_getElem? (i := 614) (by decide +kernel)⟩
theorem lw_p14 : lw_okq (⟨"ProbeLoom$Judge", "localType", "(I)I"⟩, 6) := ⟨⟨by decide +kernel, by decide +kernel⟩, List.mem_of_getElem? (i := 38) (by decide +kernel), List.mem_of_getElem? (i := 617) (by decide +kernel), List.mem_of_getElem? (i := 618) (by decide +kernel)⟩
theorem lw_p15 : lw_okq (⟨"ProbeLoom$Judge", "put", "(I)V"⟩, 6) := ⟨⟨by decide +kernel, by decide +kernel⟩, List.mem_of_getElem? (i := 38) (by decide +kernel), List.mem_of_getElem? (i := 621) (by decide +kernel), List.mem_of_getElem? (i := 622) (by decide +kernel)⟩
def lw_privs_1 : List (MethodName × Nat) := [(⟨"ProbeLoom", "appendWord", "(I)V"⟩, 12), (⟨"ProbeLoom", "findFault", "(LProbeLoom$Method;I)I"⟩, 12), (⟨"ProbeLoom$Reader", "headFault", "(LProbeLoom$Method;)I"⟩, 2), (⟨"ProbeLoom$Reader", "codeFault", "(LProbeLoom$Method;)I"⟩, 2), (⟨"ProbeLoom$Reader", "instructionFault", "(LProbeLoom$Method;I)I"⟩, 2), (⟨"ProbeLoom$Reader", "tableFault", "(LProbeLoom$Method;I)I"⟩, 2), (⟨"ProbeLoom$Reader", "tailFault", "(LProbeLoom$Method;)I"⟩, 2), (⟨"ProbeLoom$Reader", "readHandler", "([III)V"⟩, 2), (⟨"ProbeLoom$Method", "jumpsAstray", "(I)Z"⟩, 11), (⟨"ProbeLoom$Judge", "comeTo", "(LProbeLoom$Method;III)V"⟩, 6), (⟨"ProbeLoom$Judge", "putInLine", "(I)V"⟩, 6), (⟨"ProbeLoom$Judge", "goFrom", "(LProbeLoom$Method;I[LProbeLoom$Method;)V"⟩, 6), (⟨"ProbeLoom$Judge", "doOp", "(II[LProbeLoom$Method;)V"⟩, 6), (⟨"ProbeLoom$Judge", "loadType", "(I)V"⟩, 6), (⟨"ProbeLoom$Judge", "localType", "(I)I"⟩, 6), (⟨"ProbeLoom$Judge", "put", "(I)V"⟩, 6)]
theorem lw_r1 : ∀ q ∈ lw_privs_1, lw_okq q := List.forall_mem_cons.mpr ⟨lw_p0, List.forall_mem_cons.mpr ⟨lw_p1, List.forall_mem_cons.mpr ⟨lw_p2, List.forall_mem_cons.mpr ⟨lw_p3, List.forall_mem_cons.mpr ⟨lw_p4, List.forall_mem_cons.mpr ⟨lw_p5, List.forall_mem_cons.mpr ⟨lw_p6, List.forall_mem_cons.mpr ⟨lw_p7, List.forall_mem_cons.mpr ⟨lw_p8, List.forall_mem_cons.mpr ⟨lw_p9, List.forall_mem_cons.mpr ⟨lw_p10, List.forall_mem_cons.mpr ⟨lw_p11, List.forall_mem_cons.mpr ⟨lw_p12, List.forall_mem_cons.mpr ⟨lw_p13, List.forall_mem_cons.mpr ⟨lw_p14, List.forall_mem_cons.mpr ⟨lw_p15, fun _ h => absurd h List.not_mem_nil⟩⟩⟩⟩⟩⟩⟩⟩⟩⟩⟩⟩⟩⟩⟩⟩
theorem lw_p16 : lw_okq (⟨"ProbeLoom$Judge", "takeAny", "()I"⟩, 6) := ⟨⟨by decide +kernel, by decide +kernel⟩, List.mem_of_getElem? (i := 38) (by decide +kernel), List.mem_of_getElem? (i := 626) (by decide +kernel), List.mem_of_getElem? (i := 627) (by decide +kernel)⟩
theorem lw_p17 : lw_okq (⟨"ProbeLoom$Judge", "setLocalType", "(II)V"⟩, 6) := ⟨⟨by decide +kernel, by decide +kernel⟩, List.mem_of_getElem? (i := 38) (by decide +kernel), List.mem_of_getElem? (i := 630) (by decide +kernel), List.mem_of_getElem? (i := 631) (by decide +kernel)⟩
theorem lw_p18 : lw_okq (⟨"ProbeLoom$Judge", "shiftAny", "(I)V"⟩, 6) := ⟨⟨by decide +kernel, by decide +kernel⟩, List.mem_of_getElem? (i := 38) (by decide +kernel), List.mem_of_getElem? (i := 634) (by decide +kernel), List.mem_of_getElem? (i := 635) (by decide +kernel)⟩
theorem lw_p19 : lw_okq (⟨"ProbeLoom$Judge", "takeInts", "(I)V"⟩, 6) := ⟨⟨by decide +kernel, by decide +kernel⟩, List.mem_of_getElem? (i := 38) (by decide +kernel), List.mem_of_getElem? (i := 638) (by decide +kernel), List.mem_of_getElem? (i := 639) (by decide +kernel)⟩
theorem lw_p20 : lw_okq (⟨"ProbeLoom$Judge", "doTyped", "(I)V"⟩, 6) := ⟨⟨by decide +kernel, by decide +kernel⟩, List.mem_of_getElem? (i := 38) (by decide +kernel), List.mem_of_getElem? (i := 642) (by decide +kernel), List.mem_of_getElem? (i := 643) (by decide +kernel)⟩
theorem lw_p21 : lw_okq (⟨"ProbeLoom", "isMethod", "(I)Z"⟩, 12) := ⟨⟨by decide +kernel, by decide +kernel⟩, List.mem_of_getElem? (i := 16) (by decide +kernel), List.mem_of_getElem? (i := 663) (by decide +kernel), List.mem_of_getElem? (i := 664) (by decide +kernel)⟩
theorem lw_p22 : lw_okq (⟨"ProbeLoom$Method", "instructionCount", "()I"⟩, 11) := ⟨⟨by decide +kernel, by decide +kernel⟩, List.mem_of_getElem? (i := 123) (by decide +kernel), List.mem_of_getElem? (i := 671) (by decide +kernel), List.mem_of_getElem? (i := 672) (by decide +kernel)⟩
theorem lw_p23 : lw_okq (⟨"ProbeLoom$Method", "greatestHeight", "()I"⟩, 11) := ⟨⟨by decide +kernel, by decide +kernel⟩, List.mem_of_getElem? (i := 123) (by decide +kernel), List.mem_of_getElem? (i := 675) (by decide +kernel), List.mem_of_getElem? (i := 676) (by decide +kernel)⟩
theorem lw_p24 : lw_okq (⟨"ProbeLoom$Method", "isComeTo", "(I)Z"⟩, 11) := ⟨⟨by decide +kernel, by decide +kernel⟩, List.mem_of_getElem? (i := 123) (by decide +kernel), List.mem_of_getElem? (i := 679) (by decide +kernel), List.mem_of_getElem? (i := 680) (by decide +kernel)⟩
theorem lw_p25 : lw_okq (⟨"ProbeLoom$Method", "isTarget", "(I)Z"⟩, 11) := ⟨⟨by decide +kernel, by decide +kernel⟩, List.mem_of_getElem? (i := 123) (by decide +kernel), List.mem_of_getElem? (i := 732) (by decide +kernel), List.mem_of_getElem? (i := 733) (by decide +kernel)⟩
theorem lw_p26 : lw_okq (⟨"ProbeLoom$Weaver", "startAnew", "()V"⟩, 17) := ⟨⟨by decide +kernel, by decide +kernel⟩, List.mem_of_getElem? (i := 64) (by decide +kernel), List.mem_of_getElem? (i := 755) (by decide +kernel), List.mem_of_getElem? (i := 756) (by decide +kernel)⟩
theorem lw_p27 : lw_okq (⟨"ProbeLoom$Weaver", "countProbes", "(LProbeLoom$Method;LProbeLoom$Probes;)V"⟩, 17) := ⟨⟨by decide +kernel, by decide +kernel⟩, List.mem_of_getElem? (i := 64) (by decide +kernel), List.mem_of_getElem? (i := 760) (by decide +kernel), List.mem_of_getElem? (i := 761) (by decide +kernel)⟩
theorem lw_p28 : lw_okq (⟨"ProbeLoom$Weaver", "countProbe", "(II)V"⟩, 17) := ⟨⟨by decide +kernel, by decide +kernel⟩, List.mem_of_getElem? (i := 64) (by decide +kernel), List.mem_of_getElem? (i := 765) (by decide +kernel), List.mem_of_getElem? (i := 766) (by decide +kernel)⟩
theorem lw_p29 : lw_okq (⟨"ProbeLoom$Weaver", "layAll", "(LProbeLoom$Method;)V"⟩, 17) := ⟨⟨by decide +kernel, by decide +kernel⟩, List.mem_of_getElem? (i := 64) (by decide +kernel), List.mem_of_getElem? (i := 769) (by decide +kernel), List.mem_of_getElem? (i := 770) (by decide +kernel)⟩
theorem lw_p30 : lw_okq (⟨"ProbeLoom$Weaver", "caughtAt", "(LProbeLoom$Method;I)I"⟩, 17) := ⟨⟨by decide +kernel, by decide +kernel⟩, List.mem_of_getElem? (i := 64) (by decide +kernel), List.mem_of_getElem? (i := 773) (by decide +kernel), List.mem_of_getElem? (i := 774) (by decide +kernel)⟩
theorem lw_p31 : lw_okq (⟨"ProbeLoom$Weaver", "growJumps", "(LProbeLoom$Method;)Z"⟩, 17) := ⟨⟨by decide +kernel, by decide +kernel⟩, List.mem_of_getElem? (i := 64) (by decide +kernel), List.mem_of_getElem? (i := 778) (by decide +kernel), List.mem_of_getElem? (i := 779) (by decide +kernel)⟩
def lw_privs_2 : List (MethodName × Nat) := [(⟨"ProbeLoom$Judge", "takeAny", "()I"⟩, 6), (⟨"ProbeLoom$Judge", "setLocalType", "(II)V"⟩, 6), (⟨"ProbeLoom$Judge", "shiftAny", "(I)V"⟩, 6), (⟨"ProbeLoom$Judge", "takeInts", "(I)V"⟩, 6), (⟨"ProbeLoom$Judge", "doTyped", "(I)V"⟩, 6), (⟨"ProbeLoom", "isMethod", "(I)Z"⟩, 12), (⟨"ProbeLoom$Method", "instructionCount", "()I"⟩, 11), (⟨"ProbeLoom$Method", "greatestHeight", "()I"⟩, 11), (⟨"ProbeLoom$Method", "isComeTo", "(I)Z"⟩, 11), (⟨"ProbeLoom$Method", "isTarget", "(I)Z"⟩, 11), (⟨"ProbeLoom$Weaver", "startAnew", "()V"⟩, 17), (⟨"ProbeLoom$Weaver", "countProbes", "(LProbeLoom$Method;LProbeLoom$Probes;)V"⟩, 17), (⟨"ProbeLoom$Weaver", "countProbe", "(II)V"⟩, 17), (⟨"ProbeLoom$Weaver", "layAll", "(LProbeLoom$Method;)V"⟩, 17), (⟨"ProbeLoom$Weaver", "caughtAt", "(LProbeLoom$Method;I)I"⟩, 17), (⟨"ProbeLoom$Weaver", "growJumps", "(LProbeLoom$Method;)Z"⟩, 17)]
theorem lw_r2 : ∀ q ∈ lw_privs_2, lw_okq q := List.forall_mem_cons.mpr ⟨lw_p16, List.forall_mem_cons.mpr ⟨lw_p17, List.forall_mem_cons.mpr ⟨lw_p18, List.forall_mem_cons.mpr ⟨lw_p19, List.forall_mem_cons.mpr ⟨lw_p20, List.forall_mem_cons.mpr ⟨lw_p21, List.forall_mem_cons.mpr ⟨lw_p22, List.forall_mem_cons.mpr ⟨lw_p23, List.forall_mem_cons.mpr ⟨lw_p24, List.forall_mem_cons.mpr ⟨lw_p25, List.forall_mem_cons.mpr ⟨lw_p26, List.forall_mem_cons.mpr ⟨lw_p27, List.forall_mem_cons.mpr ⟨lw_p28, List.forall_mem_cons.mpr ⟨lw_p29, List.forall_mem_cons.mpr ⟨lw_p30, List.forall_mem_cons.mpr ⟨lw_p31, fun _ h => absurd h List.not_mem_nil⟩⟩⟩⟩⟩⟩⟩⟩⟩⟩⟩⟩⟩⟩⟩⟩
theorem lw_p32 : lw_okq (⟨"ProbeLoom$Weaver", "leadsTo", "(LProbeLoom$Method;II)I"⟩, 17) := ⟨⟨by decide +kernel, by decide +kernel⟩, List.mem_of_getElem? (i := 64) (by decide +kernel), List.mem_of_getElem? (i := 783) (by decide +kernel), List.mem_of_getElem? (i := 784) (by decide +kernel)⟩
theorem lw_p33 : lw_okq (⟨"ProbeLoom$Weaver", "groupAt", "(I)I"⟩, 17) := ⟨⟨by decide +kernel, by decide +kernel⟩, List.mem_of_getElem? (i := 64) (by decide +kernel), List.mem_of_getElem? (i := 788) (by decide +kernel), List.mem_of_getElem? (i := 789) (by decide +kernel)⟩
theorem lw_p34 : lw_okq (⟨"ProbeLoom$Weaver", "growCaughtPads", "(LProbeLoom$Method;)Z"⟩, 17) := ⟨⟨by decide +kernel, by decide +kernel⟩, List.mem_of_getElem? (i := 64) (by decide +kernel), List.mem_of_getElem? (i := 795) (by decide +kernel), List.mem_of_getElem? (i := 796) (by decide +kernel)⟩
theorem lw_p35 : lw_okq (⟨"ProbeLoom$Weaver", "writeAll", "(LProbeLoom$Method;LProbeLoom$Probes;)V"⟩, 17) := ⟨⟨by decide +kernel, by decide +kernel⟩, List.mem_of_getElem? (i := 64) (by decide +kernel), List.mem_of_getElem? (i := 799) (by decide +kernel), List.mem_of_getElem? (i := 800) (by decide +kernel)⟩
theorem lw_p36 : lw_okq (⟨"ProbeLoom$Weaver", "writeProbes", "(LProbeLoom$Method;LProbeLoom$Probes;III)V"⟩, 17) := ⟨⟨by decide +kernel, by decide +kernel⟩, List.mem_of_getElem? (i := 64) (by decide +kernel), List.mem_of_getElem? (i := 803) (by decide +kernel), List.mem_of_getElem? (i := 804) (by decide +kernel)⟩
theorem lw_p37 : lw_okq (⟨"ProbeLoom$Weaver", "writeByte", "(LProbeLoom$Woven;II)V"⟩, 17) := ⟨⟨by decide +kernel, by decide +kernel⟩, List.mem_of_getElem? (i := 64) (by decide +kernel), List.mem_of_getElem? (i := 818) (by decide +kernel), List.mem_of_getElem? (i := 819) (by decide +kernel)⟩
theorem lw_p38 : lw_okq (⟨"ProbeLoom$Weaver", "writeAhead", "(LProbeLoom$Method;LProbeLoom$Probes;I)V"⟩, 17) := ⟨⟨by decide +kernel, by decide +kernel⟩, List.mem_of_getElem? (i := 64) (by decide +kernel), List.mem_of_getElem? (i := 822) (by decide +kernel), List.mem_of_getElem? (i := 823) (by decide +kernel)⟩
theorem lw_p39 : lw_okq (⟨"ProbeLoom$Weaver", "writeInstruction", "(LProbeLoom$Method;I)V"⟩, 17) := ⟨⟨by decide +kernel, by decide +kernel⟩, List.mem_of_getElem? (i := 64) (by decide +kernel), List.mem_of_getElem? (i := 826) (by decide +kernel), List.mem_of_getElem? (i := 827) (by decide +kernel)⟩
theorem lw_p40 : lw_okq (⟨"ProbeLoom$Weaver", "writeJump", "(LProbeLoom$Woven;III)V"⟩, 17) := ⟨⟨by decide +kernel, by decide +kernel⟩, List.mem_of_getElem? (i := 64) (by decide +kernel), List.mem_of_getElem? (i := 831) (by decide +kernel), List.mem_of_getElem? (i := 832) (by decide +kernel)⟩
theorem lw_p41 : lw_okq (⟨"ProbeLoom$Weaver", "writePair", "(LProbeLoom$Woven;II)V"⟩, 17) := ⟨⟨by decide +kernel, by decide +kernel⟩, List.mem_of_getElem? (i := 64) (by decide +kernel), List.mem_of_getElem? (i := 835) (by decide +kernel), List.mem_of_getElem? (i := 836) (by decide +kernel)⟩
theorem lw_p42 : lw_okq (⟨"ProbeLoom$Weaver", "writeBehind", "(LProbeLoom$Method;LProbeLoom$Probes;I)V"⟩, 17) := ⟨⟨by decide +kernel, by decide +kernel⟩, List.mem_of_getElem? (i := 64) (by decide +kernel), List.mem_of_getElem? (i := 841) (by decide +kernel), List.mem_of_getElem? (i := 842) (by decide +kernel)⟩
theorem lw_p43 : lw_okq (⟨"ProbeLoom$Weaver", "writeSide", "(LProbeLoom$Woven;III)V"⟩, 17) := ⟨⟨by decide +kernel, by decide +kernel⟩, List.mem_of_getElem? (i := 64) (by decide +kernel), List.mem_of_getElem? (i := 845) (by decide +kernel), List.mem_of_getElem? (i := 846) (by decide +kernel)⟩
theorem lw_p44 : lw_okq (⟨"ProbeLoom$Weaver", "writeSidePads", "(LProbeLoom$Method;LProbeLoom$Probes;)V"⟩, 17) := ⟨⟨by decide +kernel, by decide +kernel⟩, List.mem_of_getElem? (i := 64) (by decide +kernel), List.mem_of_getElem? (i := 849) (by decide +kernel), List.mem_of_getElem? (i := 850) (by decide +kernel)⟩
theorem lw_p45 : lw_okq (⟨"ProbeLoom$Weaver", "writeCaughtPads", "(LProbeLoom$Method;LProbeLoom$Probes;)V"⟩, 17) := ⟨⟨by decide +kernel, by decide +kernel⟩, List.mem_of_getElem? (i := 64) (by decide +kernel), List.mem_of_getElem? (i := 853) (by decide +kernel), List.mem_of_getElem? (i := 854) (by decide +kernel)⟩
theorem lw_p46 : lw_okq (⟨"ProbeLoom$Weaver", "writeLeftPad", "(LProbeLoom$Method;LProbeLoom$Probes;)V"⟩, 17) := ⟨⟨by decide +kernel, by decide +kernel⟩, List.mem_of_getElem? (i := 64) (by decide +kernel), List.mem_of_getElem? (i := 857) (by decide +kernel), List.mem_of_getElem? (i := 858) (by decide +kernel)⟩
theorem lw_p47 : lw_okq (⟨"ProbeLoom$Weaver", "writeHandlers", "(LProbeLoom$Method;)V"⟩, 17) := ⟨⟨by decide +kernel, by decide +kernel⟩, List.mem_of_getElem? (i := 64) (by decide +kernel), List.mem_of_getElem? (i := 861) (by decide +kernel), List.mem_of_getElem? (i := 862) (by decide +kernel)⟩
def lw_privs_3 : List (MethodName × Nat) := [(⟨"ProbeLoom$Weaver", "leadsTo", "(LProbeLoom$Method;II)I"⟩, 17), (⟨"ProbeLoom$Weaver", "groupAt", "(I)I"⟩, 17), (⟨"ProbeLoom$Weaver", "growCaughtPads", "(LProbeLoom$Method;)Z"⟩, 17), (⟨"ProbeLoom$Weaver", "writeAll", "(LProbeLoom$Method;LProbeLoom$Probes;)V"⟩, 17), (⟨"ProbeLoom$Weaver", "writeProbes", "(LProbeLoom$Method;LProbeLoom$Probes;III)V"⟩, 17), (⟨"ProbeLoom$Weaver", "writeByte", "(LProbeLoom$Woven;II)V"⟩, 17), (⟨"ProbeLoom$Weaver", "writeAhead", "(LProbeLoom$Method;LProbeLoom$Probes;I)V"⟩, 17), (⟨"ProbeLoom$Weaver", "writeInstruction", "(LProbeLoom$Method;I)V"⟩, 17), (⟨"ProbeLoom$Weaver", "writeJump", "(LProbeLoom$Woven;III)V"⟩, 17), (⟨"ProbeLoom$Weaver", "writePair", "(LProbeLoom$Woven;II)V"⟩, 17), (⟨"ProbeLoom$Weaver", "writeBehind", "(LProbeLoom$Method;LProbeLoom$Probes;I)V"⟩, 17), (⟨"ProbeLoom$Weaver", "writeSide", "(LProbeLoom$Woven;III)V"⟩, 17), (⟨"ProbeLoom$Weaver", "writeSidePads", "(LProbeLoom$Method;LProbeLoom$Probes;)V"⟩, 17), (⟨"ProbeLoom$Weaver", "writeCaughtPads", "(LProbeLoom$Method;LProbeLoom$Probes;)V"⟩, 17), (⟨"ProbeLoom$Weaver", "writeLeftPad", "(LProbeLoom$Method;LProbeLoom$Probes;)V"⟩, 17), (⟨"ProbeLoom$Weaver", "writeHandlers", "(LProbeLoom$Method;)V"⟩, 17)]
theorem lw_r3 : ∀ q ∈ lw_privs_3, lw_okq q := List.forall_mem_cons.mpr ⟨lw_p32, List.forall_mem_cons.mpr ⟨lw_p33, List.forall_mem_cons.mpr ⟨lw_p34, List.forall_mem_cons.mpr ⟨lw_p35, List.forall_mem_cons.mpr ⟨lw_p36, List.forall_mem_cons.mpr ⟨lw_p37, List.forall_mem_cons.mpr ⟨lw_p38, List.forall_mem_cons.mpr ⟨lw_p39, List.forall_mem_cons.mpr ⟨lw_p40, List.forall_mem_cons.mpr ⟨lw_p41, List.forall_mem_cons.mpr ⟨lw_p42, List.forall_mem_cons.mpr ⟨lw_p43, List.forall_mem_cons.mpr ⟨lw_p44, List.forall_mem_cons.mpr ⟨lw_p45, List.forall_mem_cons.mpr ⟨lw_p46, List.forall_mem_cons.mpr ⟨lw_p47, fun _ h => absurd h List.not_mem_nil⟩⟩⟩⟩⟩⟩⟩⟩⟩⟩⟩⟩⟩⟩⟩⟩
theorem lw_p48 : lw_okq (⟨"ProbeLoom$Machine", "openFrame", "(LProbeLoom$Method;)LProbeLoom$Frame;"⟩, 17) := ⟨⟨by decide +kernel, by decide +kernel⟩, List.mem_of_getElem? (i := 345) (by decide +kernel), List.mem_of_getElem? (i := 895) (by decide +kernel), List.mem_of_getElem? (i := 896) (by decide +kernel)⟩
theorem lw_p49 : lw_okq (⟨"ProbeLoom$Machine", "noteEnter", "(LProbeLoom$Frame;)V"⟩, 17) := ⟨⟨by decide +kernel, by decide +kernel⟩, List.mem_of_getElem? (i := 345) (by decide +kernel), List.mem_of_getElem? (i := 910) (by decide +kernel), List.mem_of_getElem? (i := 911) (by decide +kernel)⟩
theorem lw_p50 : lw_okq (⟨"ProbeLoom$Machine", "isWatched", "(LProbeLoom$Frame;)Z"⟩, 17) := ⟨⟨by decide +kernel, by decide +kernel⟩, List.mem_of_getElem? (i := 345) (by decide +kernel), List.mem_of_getElem? (i := 914) (by decide +kernel), List.mem_of_getElem? (i := 915) (by decide +kernel)⟩
theorem lw_p51 : lw_okq (⟨"ProbeLoom$Machine", "noteArguments", "(LProbeLoom$Frame;I)V"⟩, 17) := ⟨⟨by decide +kernel, by decide +kernel⟩, List.mem_of_getElem? (i := 345) (by decide +kernel), List.mem_of_getElem? (i := 920) (by decide +kernel), List.mem_of_getElem? (i := 921) (by decide +kernel)⟩
theorem lw_p52 : lw_okq (⟨"ProbeLoom$Machine", "takeTurn", "(LProbeLoom$Frame;)V"⟩, 17) := ⟨⟨by decide +kernel, by decide +kernel⟩, List.mem_of_getElem? (i := 345) (by decide +kernel), List.mem_of_getElem? (i := 929) (by decide +kernel), List.mem_of_getElem? (i := 930) (by decide +kernel)⟩
theorem lw_p53 : lw_okq (⟨"ProbeLoom$Machine", "doWovenOp", "(LProbeLoom$Frame;I)V"⟩, 17) := ⟨⟨by decide +kernel, by decide +kernel⟩, List.mem_of_getElem? (i := 345) (by decide +kernel), List.mem_of_getElem? (i := 946) (by decide +kernel), List.mem_of_getElem? (i := 947) (by decide +kernel)⟩
theorem lw_p54 : lw_okq (⟨"ProbeLoom$Machine", "keepOld", "(LProbeLoom$Frame;)V"⟩, 17) := ⟨⟨by decide +kernel, by decide +kernel⟩, List.mem_of_getElem? (i := 345) (by decide +kernel), List.mem_of_getElem? (i := 960) (by decide +kernel), List.mem_of_getElem? (i := 961) (by decide +kernel)⟩
theorem lw_p55 : lw_okq (⟨"ProbeLoom$Machine", "rowCell", "(II)I"⟩, 17) := ⟨⟨by decide +kernel, by decide +kernel⟩, List.mem_of_getElem? (i := 345) (by decide +kernel), List.mem_of_getElem? (i := 967) (by decide +kernel), List.mem_of_getElem? (i := 968) (by decide +kernel)⟩
theorem lw_p56 : lw_okq (⟨"ProbeLoom$Machine", "cellInt", "(I)I"⟩, 17) := ⟨⟨by decide +kernel, by decide +kernel⟩, List.mem_of_getElem? (i := 345) (by decide +kernel), List.mem_of_getElem? (i := 971) (by decide +kernel), List.mem_of_getElem? (i := 972) (by decide +kernel)⟩
theorem lw_p57 : lw_okq (⟨"ProbeLoom$Machine", "noteStore", "(I)V"⟩, 17) := ⟨⟨by decide +kernel, by decide +kernel⟩, List.mem_of_getElem? (i := 345) (by decide +kernel), List.mem_of_getElem? (i := 975) (by decide +kernel), List.mem_of_getElem? (i := 976) (by decide +kernel)⟩
theorem lw_p58 : lw_okq (⟨"ProbeLoom$Machine", "passFault", "(LProbeLoom$Frame;I)V"⟩, 17) := ⟨⟨by decide +kernel, by decide +kernel⟩, List.mem_of_getElem? (i := 345) (by decide +kernel), List.mem_of_getElem? (i := 979) (by decide +kernel), List.mem_of_getElem? (i := 980) (by decide +kernel)⟩
theorem lw_p59 : lw_okq (⟨"ProbeLoom$Machine", "throwAt", "(LProbeLoom$Frame;I)V"⟩, 17) := ⟨⟨by decide +kernel, by decide +kernel⟩, List.mem_of_getElem? (i := 345) (by decide +kernel), List.mem_of_getElem? (i := 991) (by decide +kernel), List.mem_of_getElem? (i := 992) (by decide +kernel)⟩
theorem lw_p60 : lw_okq (⟨"ProbeLoom$Machine", "replaceTop", "(LProbeLoom$Frame;I)V"⟩, 17) := ⟨⟨by decide +kernel, by decide +kernel⟩, List.mem_of_getElem? (i := 345) (by decide +kernel), List.mem_of_getElem? (i := 995) (by decide +kernel), List.mem_of_getElem? (i := 996) (by decide +kernel)⟩
theorem lw_p61 : lw_okq (⟨"ProbeLoom$Machine", "mayBegin", "(LProbeLoom$Frame;I)Z"⟩, 17) := ⟨⟨by decide +kernel, by decide +kernel⟩, List.mem_of_getElem? (i := 345) (by decide +kernel), List.mem_of_getElem? (i := 1008) (by decide +kernel), List.mem_of_getElem? (i := 1009) (by decide +kernel)⟩
theorem lw_p62 : lw_okq (⟨"ProbeLoom$Machine", "isWatchedHere", "(LProbeLoom$Frame;)Z"⟩, 17) := ⟨⟨by decide +kernel, by decide +kernel⟩, List.mem_of_getElem? (i := 345) (by decide +kernel), List.mem_of_getElem? (i := 1012) (by decide +kernel), List.mem_of_getElem? (i := 1013) (by decide +kernel)⟩
theorem lw_p63 : lw_okq (⟨"ProbeLoom$Machine", "passAhead", "(LProbeLoom$Frame;I)V"⟩, 17) := ⟨⟨by decide +kernel, by decide +kernel⟩, List.mem_of_getElem? (i := 345) (by decide +kernel), List.mem_of_getElem? (i := 1020) (by decide +kernel), List.mem_of_getElem? (i := 1021) (by decide +kernel)⟩
def lw_privs_4 : List (MethodName × Nat) := [(⟨"ProbeLoom$Machine", "openFrame", "(LProbeLoom$Method;)LProbeLoom$Frame;"⟩, 17), (⟨"ProbeLoom$Machine", "noteEnter", "(LProbeLoom$Frame;)V"⟩, 17), (⟨"ProbeLoom$Machine", "isWatched", "(LProbeLoom$Frame;)Z"⟩, 17), (⟨"ProbeLoom$Machine", "noteArguments", "(LProbeLoom$Frame;I)V"⟩, 17), (⟨"ProbeLoom$Machine", "takeTurn", "(LProbeLoom$Frame;)V"⟩, 17), (⟨"ProbeLoom$Machine", "doWovenOp", "(LProbeLoom$Frame;I)V"⟩, 17), (⟨"ProbeLoom$Machine", "keepOld", "(LProbeLoom$Frame;)V"⟩, 17), (⟨"ProbeLoom$Machine", "rowCell", "(II)I"⟩, 17), (⟨"ProbeLoom$Machine", "cellInt", "(I)I"⟩, 17), (⟨"ProbeLoom$Machine", "noteStore", "(I)V"⟩, 17), (⟨"ProbeLoom$Machine", "passFault", "(LProbeLoom$Frame;I)V"⟩, 17), (⟨"ProbeLoom$Machine", "throwAt", "(LProbeLoom$Frame;I)V"⟩, 17), (⟨"ProbeLoom$Machine", "replaceTop", "(LProbeLoom$Frame;I)V"⟩, 17), (⟨"ProbeLoom$Machine", "mayBegin", "(LProbeLoom$Frame;I)Z"⟩, 17), (⟨"ProbeLoom$Machine", "isWatchedHere", "(LProbeLoom$Frame;)Z"⟩, 17), (⟨"ProbeLoom$Machine", "passAhead", "(LProbeLoom$Frame;I)V"⟩, 17)]
theorem lw_r4 : ∀ q ∈ lw_privs_4, lw_okq q := List.forall_mem_cons.mpr ⟨lw_p48, List.forall_mem_cons.mpr ⟨lw_p49, List.forall_mem_cons.mpr ⟨lw_p50, List.forall_mem_cons.mpr ⟨lw_p51, List.forall_mem_cons.mpr ⟨lw_p52, List.forall_mem_cons.mpr ⟨lw_p53, List.forall_mem_cons.mpr ⟨lw_p54, List.forall_mem_cons.mpr ⟨lw_p55, List.forall_mem_cons.mpr ⟨lw_p56, List.forall_mem_cons.mpr ⟨lw_p57, List.forall_mem_cons.mpr ⟨lw_p58, List.forall_mem_cons.mpr ⟨lw_p59, List.forall_mem_cons.mpr ⟨lw_p60, List.forall_mem_cons.mpr ⟨lw_p61, List.forall_mem_cons.mpr ⟨lw_p62, List.forall_mem_cons.mpr ⟨lw_p63, fun _ h => absurd h List.not_mem_nil⟩⟩⟩⟩⟩⟩⟩⟩⟩⟩⟩⟩⟩⟩⟩⟩
theorem lw_p64 : lw_okq (⟨"ProbeLoom$Machine", "noteAll", "(LProbeLoom$Frame;III)V"⟩, 17) := ⟨⟨by decide +kernel, by decide +kernel⟩, List.mem_of_getElem? (i := 345) (by decide +kernel), List.mem_of_getElem? (i := 1024) (by decide +kernel), List.mem_of_getElem? (i := 1025) (by decide +kernel)⟩
theorem lw_p65 : lw_okq (⟨"ProbeLoom$Machine", "doCall", "(LProbeLoom$Frame;)V"⟩, 17) := ⟨⟨by decide +kernel, by decide +kernel⟩, List.mem_of_getElem? (i := 345) (by decide +kernel), List.mem_of_getElem? (i := 1028) (by decide +kernel), List.mem_of_getElem? (i := 1029) (by decide +kernel)⟩
theorem lw_p66 : lw_okq (⟨"ProbeLoom$Machine", "doGive", "(LProbeLoom$Frame;)V"⟩, 17) := ⟨⟨by decide +kernel, by decide +kernel⟩, List.mem_of_getElem? (i := 345) (by decide +kernel), List.mem_of_getElem? (i := 1032) (by decide +kernel), List.mem_of_getElem? (i := 1033) (by decide +kernel)⟩
theorem lw_p67 : lw_okq (⟨"ProbeLoom$Machine", "passBehind", "(LProbeLoom$Frame;)V"⟩, 17) := ⟨⟨by decide +kernel, by decide +kernel⟩, List.mem_of_getElem? (i := 345) (by decide +kernel), List.mem_of_getElem? (i := 1036) (by decide +kernel), List.mem_of_getElem? (i := 1037) (by decide +kernel)⟩
theorem lw_p68 : lw_okq (⟨"ProbeLoom$Machine", "doInstruction", "(LProbeLoom$Frame;I)V"⟩, 17) := ⟨⟨by decide +kernel, by decide +kernel⟩, List.mem_of_getElem? (i := 345) (by decide +kernel), List.mem_of_getElem? (i := 1042) (by decide +kernel), List.mem_of_getElem? (i := 1043) (by decide +kernel)⟩
theorem lw_p69 : lw_okq (⟨"ProbeLoom$Machine", "doMove", "(LProbeLoom$Frame;I)V"⟩, 17) := ⟨⟨by decide +kernel, by decide +kernel⟩, List.mem_of_getElem? (i := 345) (by decide +kernel), List.mem_of_getElem? (i := 1047) (by decide +kernel), List.mem_of_getElem? (i := 1048) (by decide +kernel)⟩
theorem lw_p70 : lw_okq (⟨"ProbeLoom$Machine", "doSum", "(LProbeLoom$Frame;I)V"⟩, 17) := ⟨⟨by decide +kernel, by decide +kernel⟩, List.mem_of_getElem? (i := 345) (by decide +kernel), List.mem_of_getElem? (i := 1060) (by decide +kernel), List.mem_of_getElem? (i := 1061) (by decide +kernel)⟩
theorem lw_p71 : lw_okq (⟨"ProbeLoom$Machine", "whereJumped", "(LProbeLoom$Frame;II)I"⟩, 17) := ⟨⟨by decide +kernel, by decide +kernel⟩, List.mem_of_getElem? (i := 345) (by decide +kernel), List.mem_of_getElem? (i := 1067) (by decide +kernel), List.mem_of_getElem? (i := 1068) (by decide +kernel)⟩
theorem lw_p72 : lw_okq (⟨"ProbeLoom$Machine", "doMemory", "(LProbeLoom$Frame;I)V"⟩, 17) := ⟨⟨by decide +kernel, by decide +kernel⟩, List.mem_of_getElem? (i := 345) (by decide +kernel), List.mem_of_getElem? (i := 1074) (by decide +kernel), List.mem_of_getElem? (i := 1075) (by decide +kernel)⟩
theorem lw_p73 : lw_okq (⟨"ProbeLoom$Machine", "setCell", "(II)V"⟩, 17) := ⟨⟨by decide +kernel, by decide +kernel⟩, List.mem_of_getElem? (i := 345) (by decide +kernel), List.mem_of_getElem? (i := 1078) (by decide +kernel), List.mem_of_getElem? (i := 1079) (by decide +kernel)⟩
theorem lw_p74 : lw_okq (⟨"ProbeLoom$Machine", "makeRow", "(LProbeLoom$Frame;)V"⟩, 17) := ⟨⟨by decide +kernel, by decide +kernel⟩, List.mem_of_getElem? (i := 345) (by decide +kernel), List.mem_of_getElem? (i := 1082) (by decide +kernel), List.mem_of_getElem? (i := 1083) (by decide +kernel)⟩
theorem lw_p75 : lw_okq (⟨"ProbeLoom$Machine", "sizeOfRow", "(I)I"⟩, 17) := ⟨⟨by decide +kernel, by decide +kernel⟩, List.mem_of_getElem? (i := 345) (by decide +kernel), List.mem_of_getElem? (i := 1086) (by decide +kernel), List.mem_of_getElem? (i := 1087) (by decide +kernel)⟩
theorem lw_p76 : lw_okq (⟨"ProbeLoom$Machine", "takeFromRow", "(LProbeLoom$Frame;)V"⟩, 17) := ⟨⟨by decide +kernel, by decide +kernel⟩, List.mem_of_getElem? (i := 345) (by decide +kernel), List.mem_of_getElem? (i := 1090) (by decide +kernel), List.mem_of_getElem? (i := 1091) (by decide +kernel)⟩
theorem lw_p77 : lw_okq (⟨"ProbeLoom$Machine", "layInRow", "(LProbeLoom$Frame;)V"⟩, 17) := ⟨⟨by decide +kernel, by decide +kernel⟩, List.mem_of_getElem? (i := 345) (by decide +kernel), List.mem_of_getElem? (i := 1094) (by decide +kernel), List.mem_of_getElem? (i := 1095) (by decide +kernel)⟩
theorem lw_p78 : lw_okq (⟨"ProbeLoom$Machine", "unwind", "()V"⟩, 17) := ⟨⟨by decide +kernel, by decide +kernel⟩, List.mem_of_getElem? (i := 345) (by decide +kernel), List.mem_of_getElem? (i := 1102) (by decide +kernel), List.mem_of_getElem? (i := 1103) (by decide +kernel)⟩
theorem lw_p79 : lw_okq (⟨"ProbeLoomModel", "four", "(I)V"⟩, 87) := ⟨⟨by decide +kernel, by decide +kernel⟩, List.mem_of_getElem? (i := 1166) (by decide +kernel), List.mem_of_getElem? (i := 1438) (by decide +kernel), List.mem_of_getElem? (i := 1439) (by decide +kernel)⟩
def lw_privs_5 : List (MethodName × Nat) := [(⟨"ProbeLoom$Machine", "noteAll", "(LProbeLoom$Frame;III)V"⟩, 17), (⟨"ProbeLoom$Machine", "doCall", "(LProbeLoom$Frame;)V"⟩, 17), (⟨"ProbeLoom$Machine", "doGive", "(LProbeLoom$Frame;)V"⟩, 17), (⟨"ProbeLoom$Machine", "passBehind", "(LProbeLoom$Frame;)V"⟩, 17), (⟨"ProbeLoom$Machine", "doInstruction", "(LProbeLoom$Frame;I)V"⟩, 17), (⟨"ProbeLoom$Machine", "doMove", "(LProbeLoom$Frame;I)V"⟩, 17), (⟨"ProbeLoom$Machine", "doSum", "(LProbeLoom$Frame;I)V"⟩, 17), (⟨"ProbeLoom$Machine", "whereJumped", "(LProbeLoom$Frame;II)I"⟩, 17), (⟨"ProbeLoom$Machine", "doMemory", "(LProbeLoom$Frame;I)V"⟩, 17), (⟨"ProbeLoom$Machine", "setCell", "(II)V"⟩, 17), (⟨"ProbeLoom$Machine", "makeRow", "(LProbeLoom$Frame;)V"⟩, 17), (⟨"ProbeLoom$Machine", "sizeOfRow", "(I)I"⟩, 17), (⟨"ProbeLoom$Machine", "takeFromRow", "(LProbeLoom$Frame;)V"⟩, 17), (⟨"ProbeLoom$Machine", "layInRow", "(LProbeLoom$Frame;)V"⟩, 17), (⟨"ProbeLoom$Machine", "unwind", "()V"⟩, 17), (⟨"ProbeLoomModel", "four", "(I)V"⟩, 87)]
theorem lw_r5 : ∀ q ∈ lw_privs_5, lw_okq q := List.forall_mem_cons.mpr ⟨lw_p64, List.forall_mem_cons.mpr ⟨lw_p65, List.forall_mem_cons.mpr ⟨lw_p66, List.forall_mem_cons.mpr ⟨lw_p67, List.forall_mem_cons.mpr ⟨lw_p68, List.forall_mem_cons.mpr ⟨lw_p69, List.forall_mem_cons.mpr ⟨lw_p70, List.forall_mem_cons.mpr ⟨lw_p71, List.forall_mem_cons.mpr ⟨lw_p72, List.forall_mem_cons.mpr ⟨lw_p73, List.forall_mem_cons.mpr ⟨lw_p74, List.forall_mem_cons.mpr ⟨lw_p75, List.forall_mem_cons.mpr ⟨lw_p76, List.forall_mem_cons.mpr ⟨lw_p77, List.forall_mem_cons.mpr ⟨lw_p78, List.forall_mem_cons.mpr ⟨lw_p79, fun _ h => absurd h List.not_mem_nil⟩⟩⟩⟩⟩⟩⟩⟩⟩⟩⟩⟩⟩⟩⟩⟩
theorem lw_p80 : lw_okq (⟨"ProbeLoomModel", "form", "(II)I"⟩, 87) := ⟨⟨by decide +kernel, by decide +kernel⟩, List.mem_of_getElem? (i := 1166) (by decide +kernel), List.mem_of_getElem? (i := 1453) (by decide +kernel), List.mem_of_getElem? (i := 1454) (by decide +kernel)⟩
theorem lw_p81 : lw_okq (⟨"ProbeLoomModel", "instruction", "(III)I"⟩, 87) := ⟨⟨by decide +kernel, by decide +kernel⟩, List.mem_of_getElem? (i := 1166) (by decide +kernel), List.mem_of_getElem? (i := 1457) (by decide +kernel), List.mem_of_getElem? (i := 1458) (by decide +kernel)⟩
theorem lw_p82 : lw_okq (⟨"ProbeLoomModel", "size", "(II)I"⟩, 87) := ⟨⟨by decide +kernel, by decide +kernel⟩, List.mem_of_getElem? (i := 1166) (by decide +kernel), List.mem_of_getElem? (i := 1467) (by decide +kernel), List.mem_of_getElem? (i := 1468) (by decide +kernel)⟩
theorem lw_p83 : lw_okq (⟨"ProbeLoomModel", "rest", "(III)I"⟩, 87) := ⟨⟨by decide +kernel, by decide +kernel⟩, List.mem_of_getElem? (i := 1166) (by decide +kernel), List.mem_of_getElem? (i := 1471) (by decide +kernel), List.mem_of_getElem? (i := 1472) (by decide +kernel)⟩
theorem lw_p84 : lw_okq (⟨"ProbeLoomModel", "fault", "(II)I"⟩, 87) := ⟨⟨by decide +kernel, by decide +kernel⟩, List.mem_of_getElem? (i := 1166) (by decide +kernel), List.mem_of_getElem? (i := 1475) (by decide +kernel), List.mem_of_getElem? (i := 1476) (by decide +kernel)⟩
theorem lw_p85 : lw_okq (⟨"ProbeLoomModel", "wrongJump", "(I)I"⟩, 87) := ⟨⟨by decide +kernel, by decide +kernel⟩, List.mem_of_getElem? (i := 1166) (by decide +kernel), List.mem_of_getElem? (i := 1479) (by decide +kernel), List.mem_of_getElem? (i := 1480) (by decide +kernel)⟩
theorem lw_p86 : lw_okq (⟨"ProbeLoomModel", "jumps", "(II)I"⟩, 87) := ⟨⟨by decide +kernel, by decide +kernel⟩, List.mem_of_getElem? (i := 1166) (by decide +kernel), List.mem_of_getElem? (i := 1483) (by decide +kernel), List.mem_of_getElem? (i := 1484) (by decide +kernel)⟩
theorem lw_p87 : lw_okq (⟨"ProbeLoomModel", "leads", "(III)I"⟩, 87) := ⟨⟨by decide +kernel, by decide +kernel⟩, List.mem_of_getElem? (i := 1166) (by decide +kernel), List.mem_of_getElem? (i := 1490) (by decide +kernel), List.mem_of_getElem? (i := 1491) (by decide +kernel)⟩
theorem lw_p88 : lw_okq (⟨"ProbeLoomModel", "isBegin", "(II)Z"⟩, 87) := ⟨⟨by decide +kernel, by decide +kernel⟩, List.mem_of_getElem? (i := 1166) (by decide +kernel), List.mem_of_getElem? (i := 1501) (by decide +kernel), List.mem_of_getElem? (i := 1502) (by decide +kernel)⟩
theorem lw_p89 : lw_okq (⟨"ProbeLoomModel", "wrongHandler", "(I)I"⟩, 87) := ⟨⟨by decide +kernel, by decide +kernel⟩, List.mem_of_getElem? (i := 1166) (by decide +kernel), List.mem_of_getElem? (i := 1505) (by decide +kernel), List.mem_of_getElem? (i := 1506) (by decide +kernel)⟩
theorem lw_p90 : lw_okq (⟨"ProbeLoomModel", "types", "(I)Z"⟩, 87) := ⟨⟨by decide +kernel, by decide +kernel⟩, List.mem_of_getElem? (i := 1166) (by decide +kernel), List.mem_of_getElem? (i := 1509) (by decide +kernel), List.mem_of_getElem? (i := 1510) (by decide +kernel)⟩
theorem lw_p91 : lw_okq (⟨"ProbeLoomModel", "comes", "(II)V"⟩, 87) := ⟨⟨by decide +kernel, by decide +kernel⟩, List.mem_of_getElem? (i := 1166) (by decide +kernel), List.mem_of_getElem? (i := 1513) (by decide +kernel), List.mem_of_getElem? (i := 1514) (by decide +kernel)⟩
theorem lw_p92 : lw_okq (⟨"ProbeLoomModel", "passes", "(II)V"⟩, 87) := ⟨⟨by decide +kernel, by decide +kernel⟩, List.mem_of_getElem? (i := 1166) (by decide +kernel), List.mem_of_getElem? (i := 1517) (by decide +kernel), List.mem_of_getElem? (i := 1518) (by decide +kernel)⟩
theorem lw_p93 : lw_okq (⟨"ProbeLoomModel", "lay", "(II)V"⟩, 87) := ⟨⟨by decide +kernel, by decide +kernel⟩, List.mem_of_getElem? (i := 1166) (by decide +kernel), List.mem_of_getElem? (i := 1521) (by decide +kernel), List.mem_of_getElem? (i := 1522) (by decide +kernel)⟩
theorem lw_p94 : lw_okq (⟨"ProbeLoomModel", "effect", "(III)V"⟩, 87) := ⟨⟨by decide +kernel, by decide +kernel⟩, List.mem_of_getElem? (i := 1166) (by decide +kernel), List.mem_of_getElem? (i := 1525) (by decide +kernel), List.mem_of_getElem? (i := 1526) (by decide +kernel)⟩
theorem lw_p95 : lw_okq (⟨"ProbeLoomModel", "push", "(I)V"⟩, 87) := ⟨⟨by decide +kernel, by decide +kernel⟩, List.mem_of_getElem? (i := 1166) (by decide +kernel), List.mem_of_getElem? (i := 1529) (by decide +kernel), List.mem_of_getElem? (i := 1530) (by decide +kernel)⟩
def lw_privs_6 : List (MethodName × Nat) := [(⟨"ProbeLoomModel", "form", "(II)I"⟩, 87), (⟨"ProbeLoomModel", "instruction", "(III)I"⟩, 87), (⟨"ProbeLoomModel", "size", "(II)I"⟩, 87), (⟨"ProbeLoomModel", "rest", "(III)I"⟩, 87), (⟨"ProbeLoomModel", "fault", "(II)I"⟩, 87), (⟨"ProbeLoomModel", "wrongJump", "(I)I"⟩, 87), (⟨"ProbeLoomModel", "jumps", "(II)I"⟩, 87), (⟨"ProbeLoomModel", "leads", "(III)I"⟩, 87), (⟨"ProbeLoomModel", "isBegin", "(II)Z"⟩, 87), (⟨"ProbeLoomModel", "wrongHandler", "(I)I"⟩, 87), (⟨"ProbeLoomModel", "types", "(I)Z"⟩, 87), (⟨"ProbeLoomModel", "comes", "(II)V"⟩, 87), (⟨"ProbeLoomModel", "passes", "(II)V"⟩, 87), (⟨"ProbeLoomModel", "lay", "(II)V"⟩, 87), (⟨"ProbeLoomModel", "effect", "(III)V"⟩, 87), (⟨"ProbeLoomModel", "push", "(I)V"⟩, 87)]
theorem lw_r6 : ∀ q ∈ lw_privs_6, lw_okq q := List.forall_mem_cons.mpr ⟨lw_p80, List.forall_mem_cons.mpr ⟨lw_p81, List.forall_mem_cons.mpr ⟨lw_p82, List.forall_mem_cons.mpr ⟨lw_p83, List.forall_mem_cons.mpr ⟨lw_p84, List.forall_mem_cons.mpr ⟨lw_p85, List.forall_mem_cons.mpr ⟨lw_p86, List.forall_mem_cons.mpr ⟨lw_p87, List.forall_mem_cons.mpr ⟨lw_p88, List.forall_mem_cons.mpr ⟨lw_p89, List.forall_mem_cons.mpr ⟨lw_p90, List.forall_mem_cons.mpr ⟨lw_p91, List.forall_mem_cons.mpr ⟨lw_p92, List.forall_mem_cons.mpr ⟨lw_p93, List.forall_mem_cons.mpr ⟨lw_p94, List.forall_mem_cons.mpr ⟨lw_p95, fun _ h => absurd h List.not_mem_nil⟩⟩⟩⟩⟩⟩⟩⟩⟩⟩⟩⟩⟩⟩⟩⟩
theorem lw_p96 : lw_okq (⟨"ProbeLoomModel", "pull", "()I"⟩, 87) := ⟨⟨by decide +kernel, by decide +kernel⟩, List.mem_of_getElem? (i := 1166) (by decide +kernel), List.mem_of_getElem? (i := 1533) (by decide +kernel), List.mem_of_getElem? (i := 1534) (by decide +kernel)⟩
theorem lw_p97 : lw_okq (⟨"ProbeLoomModel", "ints", "(I)V"⟩, 87) := ⟨⟨by decide +kernel, by decide +kernel⟩, List.mem_of_getElem? (i := 1166) (by decide +kernel), List.mem_of_getElem? (i := 1537) (by decide +kernel), List.mem_of_getElem? (i := 1538) (by decide +kernel)⟩
theorem lw_p98 : lw_okq (⟨"ProbeLoomModel", "rows", "(I)V"⟩, 87) := ⟨⟨by decide +kernel, by decide +kernel⟩, List.mem_of_getElem? (i := 1166) (by decide +kernel), List.mem_of_getElem? (i := 1541) (by decide +kernel), List.mem_of_getElem? (i := 1542) (by decide +kernel)⟩
theorem lw_p99 : lw_okq (⟨"ProbeLoomModel", "isMethod", "(I)Z"⟩, 87) := ⟨⟨by decide +kernel, by decide +kernel⟩, List.mem_of_getElem? (i := 1166) (by decide +kernel), List.mem_of_getElem? (i := 1556) (by decide +kernel), List.mem_of_getElem? (i := 1557) (by decide +kernel)⟩
theorem lw_p100 : lw_okq (⟨"ProbeLoomModel", "instructions", "(IZ)I"⟩, 87) := ⟨⟨by decide +kernel, by decide +kernel⟩, List.mem_of_getElem? (i := 1166) (by decide +kernel), List.mem_of_getElem? (i := 1560) (by decide +kernel), List.mem_of_getElem? (i := 1561) (by decide +kernel)⟩
theorem lw_p101 : lw_okq (⟨"ProbeLoomModel", "isWoven", "(I)Z"⟩, 87) := ⟨⟨by decide +kernel, by decide +kernel⟩, List.mem_of_getElem? (i := 1166) (by decide +kernel), List.mem_of_getElem? (i := 1564) (by decide +kernel), List.mem_of_getElem? (i := 1565) (by decide +kernel)⟩
theorem lw_p102 : lw_okq (⟨"ProbeLoomModel", "fits", "(IIIII)Z"⟩, 87) := ⟨⟨by decide +kernel, by decide +kernel⟩, List.mem_of_getElem? (i := 1166) (by decide +kernel), List.mem_of_getElem? (i := 1588) (by decide +kernel), List.mem_of_getElem? (i := 1589) (by decide +kernel)⟩
theorem lw_p103 : lw_okq (⟨"ProbeLoomModel", "isTarget", "(II)Z"⟩, 87) := ⟨⟨by decide +kernel, by decide +kernel⟩, List.mem_of_getElem? (i := 1166) (by decide +kernel), List.mem_of_getElem? (i := 1592) (by decide +kernel), List.mem_of_getElem? (i := 1593) (by decide +kernel)⟩
theorem lw_p104 : lw_okq (⟨"ProbeLoomModel", "layAll", "(I)V"⟩, 87) := ⟨⟨by decide +kernel, by decide +kernel⟩, List.mem_of_getElem? (i := 1166) (by decide +kernel), List.mem_of_getElem? (i := 1604) (by decide +kernel), List.mem_of_getElem? (i := 1605) (by decide +kernel)⟩
theorem lw_p105 : lw_okq (⟨"ProbeLoomModel", "stands", "(IIIII)Z"⟩, 87) := ⟨⟨by decide +kernel, by decide +kernel⟩, List.mem_of_getElem? (i := 1166) (by decide +kernel), List.mem_of_getElem? (i := 1608) (by decide +kernel), List.mem_of_getElem? (i := 1609) (by decide +kernel)⟩
theorem lw_p106 : lw_okq (⟨"ProbeLoomModel", "probeOp", "(II)V"⟩, 87) := ⟨⟨by decide +kernel, by decide +kernel⟩, List.mem_of_getElem? (i := 1166) (by decide +kernel), List.mem_of_getElem? (i := 1612) (by decide +kernel), List.mem_of_getElem? (i := 1613) (by decide +kernel)⟩
theorem lw_p107 : lw_okq (⟨"ProbeLoomModel", "put", "(I)V"⟩, 87) := ⟨⟨by decide +kernel, by decide +kernel⟩, List.mem_of_getElem? (i := 1166) (by decide +kernel), List.mem_of_getElem? (i := 1616) (by decide +kernel), List.mem_of_getElem? (i := 1617) (by decide +kernel)⟩
theorem lw_p108 : lw_okq (⟨"ProbeLoomModel", "group", "(II)V"⟩, 87) := ⟨⟨by decide +kernel, by decide +kernel⟩, List.mem_of_getElem? (i := 1166) (by decide +kernel), List.mem_of_getElem? (i := 1620) (by decide +kernel), List.mem_of_getElem? (i := 1621) (by decide +kernel)⟩
theorem lw_p109 : lw_okq (⟨"ProbeLoomModel", "itself", "(III)V"⟩, 87) := ⟨⟨by decide +kernel, by decide +kernel⟩, List.mem_of_getElem? (i := 1166) (by decide +kernel), List.mem_of_getElem? (i := 1624) (by decide +kernel), List.mem_of_getElem? (i := 1625) (by decide +kernel)⟩
theorem lw_p110 : lw_okq (⟨"ProbeLoomModel", "howMany", "(IIII)I"⟩, 87) := ⟨⟨by decide +kernel, by decide +kernel⟩, List.mem_of_getElem? (i := 1166) (by decide +kernel), List.mem_of_getElem? (i := 1628) (by decide +kernel), List.mem_of_getElem? (i := 1629) (by decide +kernel)⟩
theorem lw_p111 : lw_okq (⟨"ProbeLoomModel", "padOf", "(II)I"⟩, 87) := ⟨⟨by decide +kernel, by decide +kernel⟩, List.mem_of_getElem? (i := 1166) (by decide +kernel), List.mem_of_getElem? (i := 1632) (by decide +kernel), List.mem_of_getElem? (i := 1633) (by decide +kernel)⟩
def lw_privs_7 : List (MethodName × Nat) := [(⟨"ProbeLoomModel", "pull", "()I"⟩, 87), (⟨"ProbeLoomModel", "ints", "(I)V"⟩, 87), (⟨"ProbeLoomModel", "rows", "(I)V"⟩, 87), (⟨"ProbeLoomModel", "isMethod", "(I)Z"⟩, 87), (⟨"ProbeLoomModel", "instructions", "(IZ)I"⟩, 87), (⟨"ProbeLoomModel", "isWoven", "(I)Z"⟩, 87), (⟨"ProbeLoomModel", "fits", "(IIIII)Z"⟩, 87), (⟨"ProbeLoomModel", "isTarget", "(II)Z"⟩, 87), (⟨"ProbeLoomModel", "layAll", "(I)V"⟩, 87), (⟨"ProbeLoomModel", "stands", "(IIIII)Z"⟩, 87), (⟨"ProbeLoomModel", "probeOp", "(II)V"⟩, 87), (⟨"ProbeLoomModel", "put", "(I)V"⟩, 87), (⟨"ProbeLoomModel", "group", "(II)V"⟩, 87), (⟨"ProbeLoomModel", "itself", "(III)V"⟩, 87), (⟨"ProbeLoomModel", "howMany", "(IIII)I"⟩, 87), (⟨"ProbeLoomModel", "padOf", "(II)I"⟩, 87)]
theorem lw_r7 : ∀ q ∈ lw_privs_7, lw_okq q := List.forall_mem_cons.mpr ⟨lw_p96, List.forall_mem_cons.mpr ⟨lw_p97, List.forall_mem_cons.mpr ⟨lw_p98, List.forall_mem_cons.mpr ⟨lw_p99, List.forall_mem_cons.mpr ⟨lw_p100, List.forall_mem_cons.mpr ⟨lw_p101, List.forall_mem_cons.mpr ⟨lw_p102, List.forall_mem_cons.mpr ⟨lw_p103, List.forall_mem_cons.mpr ⟨lw_p104, List.forall_mem_cons.mpr ⟨lw_p105, List.forall_mem_cons.mpr ⟨lw_p106, List.forall_mem_cons.mpr ⟨lw_p107, List.forall_mem_cons.mpr ⟨lw_p108, List.forall_mem_cons.mpr ⟨lw_p109, List.forall_mem_cons.mpr ⟨lw_p110, List.forall_mem_cons.mpr ⟨lw_p111, fun _ h => absurd h List.not_mem_nil⟩⟩⟩⟩⟩⟩⟩⟩⟩⟩⟩⟩⟩⟩⟩⟩
theorem lw_p112 : lw_okq (⟨"ProbeLoomModel", "jump", "(III)V"⟩, 87) := ⟨⟨by decide +kernel, by decide +kernel⟩, List.mem_of_getElem? (i := 1166) (by decide +kernel), List.mem_of_getElem? (i := 1636) (by decide +kernel), List.mem_of_getElem? (i := 1637) (by decide +kernel)⟩
theorem lw_p113 : lw_okq (⟨"ProbeLoomModel", "pad", "(IIII)V"⟩, 87) := ⟨⟨by decide +kernel, by decide +kernel⟩, List.mem_of_getElem? (i := 1166) (by decide +kernel), List.mem_of_getElem? (i := 1640) (by decide +kernel), List.mem_of_getElem? (i := 1641) (by decide +kernel)⟩
theorem lw_p114 : lw_okq (⟨"ProbeLoomModel", "grows", "(I)Z"⟩, 87) := ⟨⟨by decide +kernel, by decide +kernel⟩, List.mem_of_getElem? (i := 1166) (by decide +kernel), List.mem_of_getElem? (i := 1644) (by decide +kernel), List.mem_of_getElem? (i := 1645) (by decide +kernel)⟩
theorem lw_p115 : lw_okq (⟨"ProbeLoomModel", "keep", "(I)V"⟩, 87) := ⟨⟨by decide +kernel, by decide +kernel⟩, List.mem_of_getElem? (i := 1166) (by decide +kernel), List.mem_of_getElem? (i := 1648) (by decide +kernel), List.mem_of_getElem? (i := 1649) (by decide +kernel)⟩
theorem lw_p116 : lw_okq (⟨"ProbeLoomModel", "begin", "()V"⟩, 87) := ⟨⟨by decide +kernel, by decide +kernel⟩, List.mem_of_getElem? (i := 1166) (by decide +kernel), List.mem_of_getElem? (i := 1660) (by decide +kernel), List.mem_of_getElem? (i := 1661) (by decide +kernel)⟩
theorem lw_p117 : lw_okq (⟨"ProbeLoomModel", "frame", "(I)V"⟩, 87) := ⟨⟨by decide +kernel, by decide +kernel⟩, List.mem_of_getElem? (i := 1166) (by decide +kernel), List.mem_of_getElem? (i := 1664) (by decide +kernel), List.mem_of_getElem? (i := 1665) (by decide +kernel)⟩
theorem lw_p118 : lw_okq (⟨"ProbeLoomModel", "enters", "(I)V"⟩, 87) := ⟨⟨by decide +kernel, by decide +kernel⟩, List.mem_of_getElem? (i := 1166) (by decide +kernel), List.mem_of_getElem? (i := 1668) (by decide +kernel), List.mem_of_getElem? (i := 1669) (by decide +kernel)⟩
theorem lw_p119 : lw_okq (⟨"ProbeLoomModel", "watched", "(I)I"⟩, 87) := ⟨⟨by decide +kernel, by decide +kernel⟩, List.mem_of_getElem? (i := 1166) (by decide +kernel), List.mem_of_getElem? (i := 1672) (by decide +kernel), List.mem_of_getElem? (i := 1673) (by decide +kernel)⟩
theorem lw_p120 : lw_okq (⟨"ProbeLoomModel", "tellArguments", "(II)V"⟩, 87) := ⟨⟨by decide +kernel, by decide +kernel⟩, List.mem_of_getElem? (i := 1166) (by decide +kernel), List.mem_of_getElem? (i := 1676) (by decide +kernel), List.mem_of_getElem? (i := 1677) (by decide +kernel)⟩
theorem lw_p121 : lw_okq (⟨"ProbeLoomModel", "tell", "(II)V"⟩, 87) := ⟨⟨by decide +kernel, by decide +kernel⟩, List.mem_of_getElem? (i := 1166) (by decide +kernel), List.mem_of_getElem? (i := 1680) (by decide +kernel), List.mem_of_getElem? (i := 1681) (by decide +kernel)⟩
theorem lw_p122 : lw_okq (⟨"ProbeLoomModel", "step", "()V"⟩, 87) := ⟨⟨by decide +kernel, by decide +kernel⟩, List.mem_of_getElem? (i := 1166) (by decide +kernel), List.mem_of_getElem? (i := 1684) (by decide +kernel), List.mem_of_getElem? (i := 1685) (by decide +kernel)⟩
theorem lw_p123 : lw_okq (⟨"ProbeLoomModel", "octetAt", "(II)I"⟩, 87) := ⟨⟨by decide +kernel, by decide +kernel⟩, List.mem_of_getElem? (i := 1166) (by decide +kernel), List.mem_of_getElem? (i := 1688) (by decide +kernel), List.mem_of_getElem? (i := 1689) (by decide +kernel)⟩
theorem lw_p124 : lw_okq (⟨"ProbeLoomModel", "runsWoven", "(I)Z"⟩, 87) := ⟨⟨by decide +kernel, by decide +kernel⟩, List.mem_of_getElem? (i := 1166) (by decide +kernel), List.mem_of_getElem? (i := 1692) (by decide +kernel), List.mem_of_getElem? (i := 1693) (by decide +kernel)⟩
theorem lw_p125 : lw_okq (⟨"ProbeLoomModel", "said", "(III)V"⟩, 87) := ⟨⟨by decide +kernel, by decide +kernel⟩, List.mem_of_getElem? (i := 1166) (by decide +kernel), List.mem_of_getElem? (i := 1696) (by decide +kernel), List.mem_of_getElem? (i := 1697) (by decide +kernel)⟩
theorem lw_p126 : lw_okq (⟨"ProbeLoomModel", "top", "(I)I"⟩, 87) := ⟨⟨by decide +kernel, by decide +kernel⟩, List.mem_of_getElem? (i := 1166) (by decide +kernel), List.mem_of_getElem? (i := 1700) (by decide +kernel), List.mem_of_getElem? (i := 1701) (by decide +kernel)⟩
theorem lw_p127 : lw_okq (⟨"ProbeLoomModel", "oldWoven", "(III)V"⟩, 87) := ⟨⟨by decide +kernel, by decide +kernel⟩, List.mem_of_getElem? (i := 1166) (by decide +kernel), List.mem_of_getElem? (i := 1704) (by decide +kernel), List.mem_of_getElem? (i := 1705) (by decide +kernel)⟩
def lw_privs_8 : List (MethodName × Nat) := [(⟨"ProbeLoomModel", "jump", "(III)V"⟩, 87), (⟨"ProbeLoomModel", "pad", "(IIII)V"⟩, 87), (⟨"ProbeLoomModel", "grows", "(I)Z"⟩, 87), (⟨"ProbeLoomModel", "keep", "(I)V"⟩, 87), (⟨"ProbeLoomModel", "begin", "()V"⟩, 87), (⟨"ProbeLoomModel", "frame", "(I)V"⟩, 87), (⟨"ProbeLoomModel", "enters", "(I)V"⟩, 87), (⟨"ProbeLoomModel", "watched", "(I)I"⟩, 87), (⟨"ProbeLoomModel", "tellArguments", "(II)V"⟩, 87), (⟨"ProbeLoomModel", "tell", "(II)V"⟩, 87), (⟨"ProbeLoomModel", "step", "()V"⟩, 87), (⟨"ProbeLoomModel", "octetAt", "(II)I"⟩, 87), (⟨"ProbeLoomModel", "runsWoven", "(I)Z"⟩, 87), (⟨"ProbeLoomModel", "said", "(III)V"⟩, 87), (⟨"ProbeLoomModel", "top", "(I)I"⟩, 87), (⟨"ProbeLoomModel", "oldWoven", "(III)V"⟩, 87)]
theorem lw_r8 : ∀ q ∈ lw_privs_8, lw_okq q := List.forall_mem_cons.mpr ⟨lw_p112, List.forall_mem_cons.mpr ⟨lw_p113, List.forall_mem_cons.mpr ⟨lw_p114, List.forall_mem_cons.mpr ⟨lw_p115, List.forall_mem_cons.mpr ⟨lw_p116, List.forall_mem_cons.mpr ⟨lw_p117, List.forall_mem_cons.mpr ⟨lw_p118, List.forall_mem_cons.mpr ⟨lw_p119, List.forall_mem_cons.mpr ⟨lw_p120, List.forall_mem_cons.mpr ⟨lw_p121, List.forall_mem_cons.mpr ⟨lw_p122, List.forall_mem_cons.mpr ⟨lw_p123, List.forall_mem_cons.mpr ⟨lw_p124, List.forall_mem_cons.mpr ⟨lw_p125, List.forall_mem_cons.mpr ⟨lw_p126, List.forall_mem_cons.mpr ⟨lw_p127, fun _ h => absurd h List.not_mem_nil⟩⟩⟩⟩⟩⟩⟩⟩⟩⟩⟩⟩⟩⟩⟩⟩
theorem lw_p128 : lw_okq (⟨"ProbeLoomModel", "old", "(III)V"⟩, 87) := ⟨⟨by decide +kernel, by decide +kernel⟩, List.mem_of_getElem? (i := 1166) (by decide +kernel), List.mem_of_getElem? (i := 1708) (by decide +kernel), List.mem_of_getElem? (i := 1709) (by decide +kernel)⟩
theorem lw_p129 : lw_okq (⟨"ProbeLoomModel", "stored", "(I)I"⟩, 87) := ⟨⟨by decide +kernel, by decide +kernel⟩, List.mem_of_getElem? (i := 1166) (by decide +kernel), List.mem_of_getElem? (i := 1712) (by decide +kernel), List.mem_of_getElem? (i := 1713) (by decide +kernel)⟩
theorem lw_p130 : lw_okq (⟨"ProbeLoomModel", "tellStore", "(I)V"⟩, 87) := ⟨⟨by decide +kernel, by decide +kernel⟩, List.mem_of_getElem? (i := 1166) (by decide +kernel), List.mem_of_getElem? (i := 1716) (by decide +kernel), List.mem_of_getElem? (i := 1717) (by decide +kernel)⟩
theorem lw_p131 : lw_okq (⟨"ProbeLoomModel", "faultWoven", "(III)V"⟩, 87) := ⟨⟨by decide +kernel, by decide +kernel⟩, List.mem_of_getElem? (i := 1166) (by decide +kernel), List.mem_of_getElem? (i := 1720) (by decide +kernel), List.mem_of_getElem? (i := 1721) (by decide +kernel)⟩
theorem lw_p132 : lw_okq (⟨"ProbeLoomModel", "faults", "(I)Z"⟩, 87) := ⟨⟨by decide +kernel, by decide +kernel⟩, List.mem_of_getElem? (i := 1166) (by decide +kernel), List.mem_of_getElem? (i := 1724) (by decide +kernel), List.mem_of_getElem? (i := 1725) (by decide +kernel)⟩
theorem lw_p133 : lw_okq (⟨"ProbeLoomModel", "isThrown", "()V"⟩, 87) := ⟨⟨by decide +kernel, by decide +kernel⟩, List.mem_of_getElem? (i := 1166) (by decide +kernel), List.mem_of_getElem? (i := 1728) (by decide +kernel), List.mem_of_getElem? (i := 1729) (by decide +kernel)⟩
theorem lw_p134 : lw_okq (⟨"ProbeLoomModel", "catches", "(II)I"⟩, 87) := ⟨⟨by decide +kernel, by decide +kernel⟩, List.mem_of_getElem? (i := 1166) (by decide +kernel), List.mem_of_getElem? (i := 1732) (by decide +kernel), List.mem_of_getElem? (i := 1733) (by decide +kernel)⟩
theorem lw_p135 : lw_okq (⟨"ProbeLoomModel", "caught", "(II)V"⟩, 87) := ⟨⟨by decide +kernel, by decide +kernel⟩, List.mem_of_getElem? (i := 1166) (by decide +kernel), List.mem_of_getElem? (i := 1736) (by decide +kernel), List.mem_of_getElem? (i := 1737) (by decide +kernel)⟩
theorem lw_p136 : lw_okq (⟨"ProbeLoomModel", "give", "(I)V"⟩, 87) := ⟨⟨by decide +kernel, by decide +kernel⟩, List.mem_of_getElem? (i := 1166) (by decide +kernel), List.mem_of_getElem? (i := 1740) (by decide +kernel), List.mem_of_getElem? (i := 1741) (by decide +kernel)⟩
theorem lw_p137 : lw_okq (⟨"ProbeLoomModel", "replace", "(I)V"⟩, 87) := ⟨⟨by decide +kernel, by decide +kernel⟩, List.mem_of_getElem? (i := 1166) (by decide +kernel), List.mem_of_getElem? (i := 1744) (by decide +kernel), List.mem_of_getElem? (i := 1745) (by decide +kernel)⟩
theorem lw_p138 : lw_okq (⟨"ProbeLoomModel", "setTop", "(I)V"⟩, 87) := ⟨⟨by decide +kernel, by decide +kernel⟩, List.mem_of_getElem? (i := 1166) (by decide +kernel), List.mem_of_getElem? (i := 1748) (by decide +kernel), List.mem_of_getElem? (i := 1749) (by decide +kernel)⟩
theorem lw_p139 : lw_okq (⟨"ProbeLoomModel", "take", "()I"⟩, 87) := ⟨⟨by decide +kernel, by decide +kernel⟩, List.mem_of_getElem? (i := 1166) (by decide +kernel), List.mem_of_getElem? (i := 1752) (by decide +kernel), List.mem_of_getElem? (i := 1753) (by decide +kernel)⟩
theorem lw_p140 : lw_okq (⟨"ProbeLoomModel", "leaves", "()V"⟩, 87) := ⟨⟨by decide +kernel, by decide +kernel⟩, List.mem_of_getElem? (i := 1166) (by decide +kernel), List.mem_of_getElem? (i := 1756) (by decide +kernel), List.mem_of_getElem? (i := 1757) (by decide +kernel)⟩
theorem lw_p141 : lw_okq (⟨"ProbeLoomModel", "jumpTo", "(III)I"⟩, 87) := ⟨⟨by decide +kernel, by decide +kernel⟩, List.mem_of_getElem? (i := 1166) (by decide +kernel), List.mem_of_getElem? (i := 1760) (by decide +kernel), List.mem_of_getElem? (i := 1761) (by decide +kernel)⟩
theorem lw_p142 : lw_okq (⟨"ProbeLoomModel", "ahead", "(III)Z"⟩, 87) := ⟨⟨by decide +kernel, by decide +kernel⟩, List.mem_of_getElem? (i := 1166) (by decide +kernel), List.mem_of_getElem? (i := 1764) (by decide +kernel), List.mem_of_getElem? (i := 1765) (by decide +kernel)⟩
theorem lw_p143 : lw_okq (⟨"ProbeLoomModel", "done", "(IIII)Z"⟩, 87) := ⟨⟨by decide +kernel, by decide +kernel⟩, List.mem_of_getElem? (i := 1166) (by decide +kernel), List.mem_of_getElem? (i := 1768) (by decide +kernel), List.mem_of_getElem? (i := 1769) (by decide +kernel)⟩
def lw_privs_9 : List (MethodName × Nat) := [(⟨"ProbeLoomModel", "old", "(III)V"⟩, 87), (⟨"ProbeLoomModel", "stored", "(I)I"⟩, 87), (⟨"ProbeLoomModel", "tellStore", "(I)V"⟩, 87), (⟨"ProbeLoomModel", "faultWoven", "(III)V"⟩, 87), (⟨"ProbeLoomModel", "faults", "(I)Z"⟩, 87), (⟨"ProbeLoomModel", "isThrown", "()V"⟩, 87), (⟨"ProbeLoomModel", "catches", "(II)I"⟩, 87), (⟨"ProbeLoomModel", "caught", "(II)V"⟩, 87), (⟨"ProbeLoomModel", "give", "(I)V"⟩, 87), (⟨"ProbeLoomModel", "replace", "(I)V"⟩, 87), (⟨"ProbeLoomModel", "setTop", "(I)V"⟩, 87), (⟨"ProbeLoomModel", "take", "()I"⟩, 87), (⟨"ProbeLoomModel", "leaves", "()V"⟩, 87), (⟨"ProbeLoomModel", "jumpTo", "(III)I"⟩, 87), (⟨"ProbeLoomModel", "ahead", "(III)Z"⟩, 87), (⟨"ProbeLoomModel", "done", "(IIII)Z"⟩, 87)]
theorem lw_r9 : ∀ q ∈ lw_privs_9, lw_okq q := List.forall_mem_cons.mpr ⟨lw_p128, List.forall_mem_cons.mpr ⟨lw_p129, List.forall_mem_cons.mpr ⟨lw_p130, List.forall_mem_cons.mpr ⟨lw_p131, List.forall_mem_cons.mpr ⟨lw_p132, List.forall_mem_cons.mpr ⟨lw_p133, List.forall_mem_cons.mpr ⟨lw_p134, List.forall_mem_cons.mpr ⟨lw_p135, List.forall_mem_cons.mpr ⟨lw_p136, List.forall_mem_cons.mpr ⟨lw_p137, List.forall_mem_cons.mpr ⟨lw_p138, List.forall_mem_cons.mpr ⟨lw_p139, List.forall_mem_cons.mpr ⟨lw_p140, List.forall_mem_cons.mpr ⟨lw_p141, List.forall_mem_cons.mpr ⟨lw_p142, List.forall_mem_cons.mpr ⟨lw_p143, fun _ h => absurd h List.not_mem_nil⟩⟩⟩⟩⟩⟩⟩⟩⟩⟩⟩⟩⟩⟩⟩⟩
theorem lw_p144 : lw_okq (⟨"ProbeLoomModel", "jump", "(IIII)Z"⟩, 87) := ⟨⟨by decide +kernel, by decide +kernel⟩, List.mem_of_getElem? (i := 1166) (by decide +kernel), List.mem_of_getElem? (i := 1772) (by decide +kernel), List.mem_of_getElem? (i := 1773) (by decide +kernel)⟩
theorem lw_p145 : lw_okq (⟨"ProbeLoomModel", "call", "(I)V"⟩, 87) := ⟨⟨by decide +kernel, by decide +kernel⟩, List.mem_of_getElem? (i := 1166) (by decide +kernel), List.mem_of_getElem? (i := 1779) (by decide +kernel), List.mem_of_getElem? (i := 1780) (by decide +kernel)⟩
theorem lw_p146 : lw_okq (⟨"ProbeLoomModel", "gives", "()V"⟩, 87) := ⟨⟨by decide +kernel, by decide +kernel⟩, List.mem_of_getElem? (i := 1166) (by decide +kernel), List.mem_of_getElem? (i := 1783) (by decide +kernel), List.mem_of_getElem? (i := 1784) (by decide +kernel)⟩
theorem lw_p147 : lw_okq (⟨"ProbeLoomModel", "behind", "(IIIZ)V"⟩, 87) := ⟨⟨by decide +kernel, by decide +kernel⟩, List.mem_of_getElem? (i := 1166) (by decide +kernel), List.mem_of_getElem? (i := 1787) (by decide +kernel), List.mem_of_getElem? (i := 1788) (by decide +kernel)⟩
theorem lw_p148 : lw_okq (⟨"ProbeLoomModel", "plain", "(III)V"⟩, 87) := ⟨⟨by decide +kernel, by decide +kernel⟩, List.mem_of_getElem? (i := 1166) (by decide +kernel), List.mem_of_getElem? (i := 1791) (by decide +kernel), List.mem_of_getElem? (i := 1792) (by decide +kernel)⟩
theorem lw_p149 : lw_okq (⟨"ProbeLoomModel", "swap", "()V"⟩, 87) := ⟨⟨by decide +kernel, by decide +kernel⟩, List.mem_of_getElem? (i := 1166) (by decide +kernel), List.mem_of_getElem? (i := 1795) (by decide +kernel), List.mem_of_getElem? (i := 1796) (by decide +kernel)⟩
theorem lw_p150 : lw_okq (⟨"ProbeLoomModel", "marks", "(I)V"⟩, 87) := ⟨⟨by decide +kernel, by decide +kernel⟩, List.mem_of_getElem? (i := 1166) (by decide +kernel), List.mem_of_getElem? (i := 1799) (by decide +kernel), List.mem_of_getElem? (i := 1800) (by decide +kernel)⟩
theorem lw_p151 : lw_okq (⟨"ProbeLoomModel", "other", "(I)V"⟩, 87) := ⟨⟨by decide +kernel, by decide +kernel⟩, List.mem_of_getElem? (i := 1166) (by decide +kernel), List.mem_of_getElem? (i := 1803) (by decide +kernel), List.mem_of_getElem? (i := 1804) (by decide +kernel)⟩
theorem lw_p152 : lw_okq (⟨"ProbeLoomModel", "work", "(I)V"⟩, 87) := ⟨⟨by decide +kernel, by decide +kernel⟩, List.mem_of_getElem? (i := 1166) (by decide +kernel), List.mem_of_getElem? (i := 1807) (by decide +kernel), List.mem_of_getElem? (i := 1808) (by decide +kernel)⟩
theorem lw_p153 : lw_okq (⟨"ProbeLoomModel", "newRow", "()V"⟩, 87) := ⟨⟨by decide +kernel, by decide +kernel⟩, List.mem_of_getElem? (i := 1166) (by decide +kernel), List.mem_of_getElem? (i := 1811) (by decide +kernel), List.mem_of_getElem? (i := 1812) (by decide +kernel)⟩
theorem lw_p154 : lw_okq (⟨"ProbeLoomModel", "keepRun", "()V"⟩, 87) := ⟨⟨by decide +kernel, by decide +kernel⟩, List.mem_of_getElem? (i := 1166) (by decide +kernel), List.mem_of_getElem? (i := 1815) (by decide +kernel), List.mem_of_getElem? (i := 1816) (by decide +kernel)⟩
theorem lw_p155 : lw_okq (⟨"ProbeLoomModel", "isRun", "(I)Z"⟩, 87) := ⟨⟨by decide +kernel, by decide +kernel⟩, List.mem_of_getElem? (i := 1166) (by decide +kernel), List.mem_of_getElem? (i := 1827) (by decide +kernel), List.mem_of_getElem? (i := 1828) (by decide +kernel)⟩
theorem lw_p156 : lw_okq (⟨"ProbeLoomModel", "kept", "(I)I"⟩, 87) := ⟨⟨by decide +kernel, by decide +kernel⟩, List.mem_of_getElem? (i := 1166) (by decide +kernel), List.mem_of_getElem? (i := 1839) (by decide +kernel), List.mem_of_getElem? (i := 1840) (by decide +kernel)⟩
def lw_privs_10 : List (MethodName × Nat) := [(⟨"ProbeLoomModel", "jump", "(IIII)Z"⟩, 87), (⟨"ProbeLoomModel", "call", "(I)V"⟩, 87), (⟨"ProbeLoomModel", "gives", "()V"⟩, 87), (⟨"ProbeLoomModel", "behind", "(IIIZ)V"⟩, 87), (⟨"ProbeLoomModel", "plain", "(III)V"⟩, 87), (⟨"ProbeLoomModel", "swap", "()V"⟩, 87), (⟨"ProbeLoomModel", "marks", "(I)V"⟩, 87), (⟨"ProbeLoomModel", "other", "(I)V"⟩, 87), (⟨"ProbeLoomModel", "work", "(I)V"⟩, 87), (⟨"ProbeLoomModel", "newRow", "()V"⟩, 87), (⟨"ProbeLoomModel", "keepRun", "()V"⟩, 87), (⟨"ProbeLoomModel", "isRun", "(I)Z"⟩, 87), (⟨"ProbeLoomModel", "kept", "(I)I"⟩, 87)]
theorem lw_r10 : ∀ q ∈ lw_privs_10, lw_okq q := List.forall_mem_cons.mpr ⟨lw_p144, List.forall_mem_cons.mpr ⟨lw_p145, List.forall_mem_cons.mpr ⟨lw_p146, List.forall_mem_cons.mpr ⟨lw_p147, List.forall_mem_cons.mpr ⟨lw_p148, List.forall_mem_cons.mpr ⟨lw_p149, List.forall_mem_cons.mpr ⟨lw_p150, List.forall_mem_cons.mpr ⟨lw_p151, List.forall_mem_cons.mpr ⟨lw_p152, List.forall_mem_cons.mpr ⟨lw_p153, List.forall_mem_cons.mpr ⟨lw_p154, List.forall_mem_cons.mpr ⟨lw_p155, List.forall_mem_cons.mpr ⟨lw_p156, fun _ h => absurd h List.not_mem_nil⟩⟩⟩⟩⟩⟩⟩⟩⟩⟩⟩⟩⟩
def lw_privs : List (MethodName × Nat) := lw_privs_1 ++ (lw_privs_2 ++ (lw_privs_3 ++ (lw_privs_4 ++ (lw_privs_5 ++ (lw_privs_6 ++ (lw_privs_7 ++ (lw_privs_8 ++ (lw_privs_9 ++ (lw_privs_10)))))))))
def lw_tbl : List Cond := k2_sels lw_privs ++ tables_1
theorem lw_privs_ok : ∀ q ∈ lw_privs, lw_okq q := by
  show ∀ q ∈ lw_privs_1 ++ (lw_privs_2 ++ (lw_privs_3 ++ (lw_privs_4 ++ (lw_privs_5 ++ (lw_privs_6 ++ (lw_privs_7 ++ (lw_privs_8 ++ (lw_privs_9 ++ (lw_privs_10))))))))), lw_okq q
  exact List.forall_mem_append.mpr ⟨lw_r1, List.forall_mem_append.mpr ⟨lw_r2, List.forall_mem_append.mpr ⟨lw_r3, List.forall_mem_append.mpr ⟨lw_r4, List.forall_mem_append.mpr ⟨lw_r5, List.forall_mem_append.mpr ⟨lw_r6, List.forall_mem_append.mpr ⟨lw_r7, List.forall_mem_append.mpr ⟨lw_r8, List.forall_mem_append.mpr ⟨lw_r9, lw_r10⟩⟩⟩⟩⟩⟩⟩⟩⟩
end
section
def RX0 : String := "ProbeLoom$Frame"
def TX0 : u_T := fun k => match k with
  | 0 => ("ProbeLoom$Frame", "locals", "[I", true)
  | 1 => ("ProbeLoom$Frame", "stack", "[I", true)
  | 2 => ("ProbeLoom$Frame", "height", "I", false)
  | 3 => ("ProbeLoom$Frame", "method", "LProbeLoom$Method;", false)
  | 4 => ("ProbeLoom$Frame", "byWoven", "Z", false)
  | _ => ("ProbeLoom$Frame", "place", "I", false)
def tyX0 : Nat → FieldType := fun k => match k with
  | 0 => .array .int
  | 1 => .array .int
  | 2 => .int
  | 3 => .object "ProbeLoom$Method"
  | 4 => .boolean
  | _ => .int
theorem nmX0 : ∀ a, a < 6 → ∀ b, b < 6 → a ≠ b → (TX0 a).2.1 ≠ (TX0 b).2.1 := by decide +kernel
theorem tyX0_ok : ∀ k, k < 6 → parseFieldDescriptor (TX0 k).2.2.1 = some (tyX0 k) := by decide +kernel
abbrev cX0_init : ByteArray := prog_2_method_1_code
def yX0_init : MethodName := ⟨RX0, "<init>", "(LProbeLoom$Method;)V"⟩
abbrev cX0_begin : ByteArray := prog_2_method_2_code
def yX0_begin : MethodName := ⟨RX0, "begin", "(LProbeLoom$Method;Z)V"⟩
abbrev cX0_code : ByteArray := prog_2_method_3_code
def yX0_code : MethodName := ⟨RX0, "code", "()[I"⟩
abbrev cX0_operand : ByteArray := prog_2_method_4_code
def yX0_operand : MethodName := ⟨RX0, "operand", "()I"⟩
abbrev cX0_homePlace : ByteArray := prog_2_method_5_code
def yX0_homePlace : MethodName := ⟨RX0, "homePlace", "()I"⟩
abbrev cX0_push : ByteArray := prog_2_method_6_code
def yX0_push : MethodName := ⟨RX0, "push", "(I)V"⟩
abbrev cX0_pop : ByteArray := prog_2_method_7_code
def yX0_pop : MethodName := ⟨RX0, "pop", "()I"⟩
abbrev cX0_peek : ByteArray := prog_2_method_8_code
def yX0_peek : MethodName := ⟨RX0, "peek", "(I)I"⟩
abbrev cX0_local : ByteArray := prog_2_method_9_code
def yX0_local : MethodName := ⟨RX0, "local", "(I)I"⟩
abbrev cX0_setLocal : ByteArray := prog_2_method_10_code
def yX0_setLocal : MethodName := ⟨RX0, "setLocal", "(II)V"⟩
abbrev cX0_catches : ByteArray := prog_2_method_11_code
def yX0_catches : MethodName := ⟨RX0, "catches", "(I)Z"⟩
def RX1 : String := "ProbeLoom$Judge"
def TX1 : u_T := fun k => match k with
  | 0 => ("ProbeLoom$Judge", "waiting", "[I", true)
  | 1 => ("ProbeLoom$Judge", "waits", "[Z", true)
  | 2 => ("ProbeLoom$Judge", "waitingCount", "I", false)
  | 3 => ("ProbeLoom$Judge", "stack", "I", false)
  | 4 => ("ProbeLoom$Judge", "locals", "I", false)
  | _ => ("ProbeLoom$Judge", "wrong", "Z", false)
def tyX1 : Nat → FieldType := fun k => match k with
  | 0 => .array .int
  | 1 => .array .boolean
  | 2 => .int
  | 3 => .int
  | 4 => .int
  | _ => .boolean
theorem nmX1 : ∀ a, a < 6 → ∀ b, b < 6 → a ≠ b → (TX1 a).2.1 ≠ (TX1 b).2.1 := by decide +kernel
theorem tyX1_ok : ∀ k, k < 6 → parseFieldDescriptor (TX1 k).2.2.1 = some (tyX1 k) := by decide +kernel
abbrev cX1_init : ByteArray := prog_3_method_1_code
def yX1_init : MethodName := ⟨RX1, "<init>", "()V"⟩
abbrev cX1_accepts : ByteArray := prog_3_method_2_code
def yX1_accepts : MethodName := ⟨RX1, "accepts", "(LProbeLoom$Method;[LProbeLoom$Method;)Z"⟩
abbrev cX1_goFrom : ByteArray := prog_3_method_3_code
def yX1_goFrom : MethodName := ⟨RX1, "goFrom", "(LProbeLoom$Method;I[LProbeLoom$Method;)V"⟩
abbrev cX1_comeTo : ByteArray := prog_3_method_4_code
def yX1_comeTo : MethodName := ⟨RX1, "comeTo", "(LProbeLoom$Method;III)V"⟩
abbrev cX1_putInLine : ByteArray := prog_3_method_5_code
def yX1_putInLine : MethodName := ⟨RX1, "putInLine", "(I)V"⟩
abbrev cX1_doOp : ByteArray := prog_3_method_6_code
def yX1_doOp : MethodName := ⟨RX1, "doOp", "(II[LProbeLoom$Method;)V"⟩
abbrev cX1_shiftAny : ByteArray := prog_3_method_7_code
def yX1_shiftAny : MethodName := ⟨RX1, "shiftAny", "(I)V"⟩
abbrev cX1_doTyped : ByteArray := prog_3_method_8_code
def yX1_doTyped : MethodName := ⟨RX1, "doTyped", "(I)V"⟩
abbrev cX1_loadType : ByteArray := prog_3_method_9_code
def yX1_loadType : MethodName := ⟨RX1, "loadType", "(I)V"⟩
abbrev cX1_localType : ByteArray := prog_3_method_10_code
def yX1_localType : MethodName := ⟨RX1, "localType", "(I)I"⟩
abbrev cX1_setLocalType : ByteArray := prog_3_method_11_code
def yX1_setLocalType : MethodName := ⟨RX1, "setLocalType", "(II)V"⟩
abbrev cX1_put : ByteArray := prog_3_method_12_code
def yX1_put : MethodName := ⟨RX1, "put", "(I)V"⟩
abbrev cX1_takeAny : ByteArray := prog_3_method_13_code
def yX1_takeAny : MethodName := ⟨RX1, "takeAny", "()I"⟩
abbrev cX1_takeInts : ByteArray := prog_3_method_14_code
def yX1_takeInts : MethodName := ⟨RX1, "takeInts", "(I)V"⟩
def RX2 : String := "ProbeLoom$Machine"
def TX2 : u_T := fun k => match k with
  | 0 => ("ProbeLoom$Machine", "methods", "[LProbeLoom$Method;", true)
  | 1 => ("ProbeLoom$Machine", "probes", "LProbeLoom$Probes;", true)
  | 2 => ("ProbeLoom$Machine", "frames", "[LProbeLoom$Frame;", true)
  | 3 => ("ProbeLoom$Machine", "memory", "[I", true)
  | 4 => ("ProbeLoom$Machine", "rowSizes", "[I", true)
  | 5 => ("ProbeLoom$Machine", "passings", "[I", true)
  | 6 => ("ProbeLoom$Machine", "tale", "LProbeLoom$Tale;", false)
  | 7 => ("ProbeLoom$Machine", "manner", "I", false)
  | 8 => ("ProbeLoom$Machine", "limit", "I", false)
  | 9 => ("ProbeLoom$Machine", "depth", "I", false)
  | 10 => ("ProbeLoom$Machine", "thrown", "I", false)
  | 11 => ("ProbeLoom$Machine", "thrownPlace", "I", false)
  | 12 => ("ProbeLoom$Machine", "thrownMethod", "I", false)
  | 13 => ("ProbeLoom$Machine", "keptCell", "I", false)
  | 14 => ("ProbeLoom$Machine", "keptInt", "I", false)
  | 15 => ("ProbeLoom$Machine", "jumped", "Z", false)
  | _ => ("ProbeLoom$Machine", "home", "I", false)
def tyX2 : Nat → FieldType := fun k => match k with
  | 0 => .array (.object "ProbeLoom$Method")
  | 1 => .object "ProbeLoom$Probes"
  | 2 => .array (.object "ProbeLoom$Frame")
  | 3 => .array .int
  | 4 => .array .int
  | 5 => .array .int
  | 6 => .object "ProbeLoom$Tale"
  | 7 => .int
  | 8 => .int
  | 9 => .int
  | 10 => .int
  | 11 => .int
  | 12 => .int
  | 13 => .int
  | 14 => .int
  | 15 => .boolean
  | _ => .int
theorem nmX2 : ∀ a, a < 17 → ∀ b, b < 17 → a ≠ b → (TX2 a).2.1 ≠ (TX2 b).2.1 := by decide +kernel
theorem tyX2_ok : ∀ k, k < 17 → parseFieldDescriptor (TX2 k).2.2.1 = some (tyX2 k) := by decide +kernel
abbrev cX2_init : ByteArray := prog_4_method_1_code
def yX2_init : MethodName := ⟨RX2, "<init>", "([LProbeLoom$Method;LProbeLoom$Probes;LProbeLoom$Tale;)V"⟩
abbrev cX2_perform : ByteArray := prog_4_method_2_code
def yX2_perform : MethodName := ⟨RX2, "perform", "(LProbeLoom$Tale;ILProbeLoom$Method;III)V"⟩
abbrev cX2_openFrame : ByteArray := prog_4_method_3_code
def yX2_openFrame : MethodName := ⟨RX2, "openFrame", "(LProbeLoom$Method;)LProbeLoom$Frame;"⟩
abbrev cX2_takeTurn : ByteArray := prog_4_method_4_code
def yX2_takeTurn : MethodName := ⟨RX2, "takeTurn", "(LProbeLoom$Frame;)V"⟩
abbrev cX2_mayBegin : ByteArray := prog_4_method_5_code
def yX2_mayBegin : MethodName := ⟨RX2, "mayBegin", "(LProbeLoom$Frame;I)Z"⟩
abbrev cX2_doInstruction : ByteArray := prog_4_method_6_code
def yX2_doInstruction : MethodName := ⟨RX2, "doInstruction", "(LProbeLoom$Frame;I)V"⟩
abbrev cX2_doMove : ByteArray := prog_4_method_7_code
def yX2_doMove : MethodName := ⟨RX2, "doMove", "(LProbeLoom$Frame;I)V"⟩
abbrev cX2_doSum : ByteArray := prog_4_method_8_code
def yX2_doSum : MethodName := ⟨RX2, "doSum", "(LProbeLoom$Frame;I)V"⟩
abbrev cX2_sum : ByteArray := prog_4_method_9_code
def yX2_sum : MethodName := ⟨RX2, "sum", "(III)I"⟩
abbrev cX2_whereJumped : ByteArray := prog_4_method_10_code
def yX2_whereJumped : MethodName := ⟨RX2, "whereJumped", "(LProbeLoom$Frame;II)I"⟩
abbrev cX2_choosesJump : ByteArray := prog_4_method_11_code
def yX2_choosesJump : MethodName := ⟨RX2, "choosesJump", "(LProbeLoom$Frame;I)Z"⟩
abbrev cX2_doMemory : ByteArray := prog_4_method_12_code
def yX2_doMemory : MethodName := ⟨RX2, "doMemory", "(LProbeLoom$Frame;I)V"⟩
abbrev cX2_makeRow : ByteArray := prog_4_method_13_code
def yX2_makeRow : MethodName := ⟨RX2, "makeRow", "(LProbeLoom$Frame;)V"⟩
abbrev cX2_takeFromRow : ByteArray := prog_4_method_14_code
def yX2_takeFromRow : MethodName := ⟨RX2, "takeFromRow", "(LProbeLoom$Frame;)V"⟩
abbrev cX2_layInRow : ByteArray := prog_4_method_15_code
def yX2_layInRow : MethodName := ⟨RX2, "layInRow", "(LProbeLoom$Frame;)V"⟩
abbrev cX2_fieldCell : ByteArray := prog_4_method_16_code
def yX2_fieldCell : MethodName := ⟨RX2, "fieldCell", "(I)I"⟩
abbrev cX2_sizeOfRow : ByteArray := prog_4_method_17_code
def yX2_sizeOfRow : MethodName := ⟨RX2, "sizeOfRow", "(I)I"⟩
abbrev cX2_rowCell : ByteArray := prog_4_method_18_code
def yX2_rowCell : MethodName := ⟨RX2, "rowCell", "(II)I"⟩
abbrev cX2_cellInt : ByteArray := prog_4_method_19_code
def yX2_cellInt : MethodName := ⟨RX2, "cellInt", "(I)I"⟩
abbrev cX2_setCell : ByteArray := prog_4_method_20_code
def yX2_setCell : MethodName := ⟨RX2, "setCell", "(II)V"⟩
abbrev cX2_doCall : ByteArray := prog_4_method_21_code
def yX2_doCall : MethodName := ⟨RX2, "doCall", "(LProbeLoom$Frame;)V"⟩
abbrev cX2_doGive : ByteArray := prog_4_method_22_code
def yX2_doGive : MethodName := ⟨RX2, "doGive", "(LProbeLoom$Frame;)V"⟩
abbrev cX2_throwAt : ByteArray := prog_4_method_23_code
def yX2_throwAt : MethodName := ⟨RX2, "throwAt", "(LProbeLoom$Frame;I)V"⟩
abbrev cX2_unwind : ByteArray := prog_4_method_24_code
def yX2_unwind : MethodName := ⟨RX2, "unwind", "()V"⟩
abbrev cX2_isWatched : ByteArray := prog_4_method_25_code
def yX2_isWatched : MethodName := ⟨RX2, "isWatched", "(LProbeLoom$Frame;)Z"⟩
abbrev cX2_isWatchedHere : ByteArray := prog_4_method_26_code
def yX2_isWatchedHere : MethodName := ⟨RX2, "isWatchedHere", "(LProbeLoom$Frame;)Z"⟩
abbrev cX2_noteAll : ByteArray := prog_4_method_27_code
def yX2_noteAll : MethodName := ⟨RX2, "noteAll", "(LProbeLoom$Frame;III)V"⟩
abbrev cX2_noteEnter : ByteArray := prog_4_method_28_code
def yX2_noteEnter : MethodName := ⟨RX2, "noteEnter", "(LProbeLoom$Frame;)V"⟩
abbrev cX2_noteArguments : ByteArray := prog_4_method_29_code
def yX2_noteArguments : MethodName := ⟨RX2, "noteArguments", "(LProbeLoom$Frame;I)V"⟩
abbrev cX2_passAhead : ByteArray := prog_4_method_30_code
def yX2_passAhead : MethodName := ⟨RX2, "passAhead", "(LProbeLoom$Frame;I)V"⟩
abbrev cX2_passBehind : ByteArray := prog_4_method_31_code
def yX2_passBehind : MethodName := ⟨RX2, "passBehind", "(LProbeLoom$Frame;)V"⟩
abbrev cX2_passFault : ByteArray := prog_4_method_32_code
def yX2_passFault : MethodName := ⟨RX2, "passFault", "(LProbeLoom$Frame;I)V"⟩
abbrev cX2_keepOld : ByteArray := prog_4_method_33_code
def yX2_keepOld : MethodName := ⟨RX2, "keepOld", "(LProbeLoom$Frame;)V"⟩
abbrev cX2_noteStore : ByteArray := prog_4_method_34_code
def yX2_noteStore : MethodName := ⟨RX2, "noteStore", "(I)V"⟩
abbrev cX2_replaceTop : ByteArray := prog_4_method_35_code
def yX2_replaceTop : MethodName := ⟨RX2, "replaceTop", "(LProbeLoom$Frame;I)V"⟩
abbrev cX2_doWovenOp : ByteArray := prog_4_method_36_code
def yX2_doWovenOp : MethodName := ⟨RX2, "doWovenOp", "(LProbeLoom$Frame;I)V"⟩
def RX3 : String := "ProbeLoom$Method"
def TX3 : u_T := fun k => match k with
  | 0 => ("ProbeLoom$Method", "number", "I", true)
  | 1 => ("ProbeLoom$Method", "code", "[I", true)
  | 2 => ("ProbeLoom$Method", "sizes", "[I", true)
  | 3 => ("ProbeLoom$Method", "stacks", "[I", true)
  | 4 => ("ProbeLoom$Method", "localTypes", "[I", true)
  | 5 => ("ProbeLoom$Method", "handlers", "[I", true)
  | 6 => ("ProbeLoom$Method", "woven", "LProbeLoom$Woven;", true)
  | 7 => ("ProbeLoom$Method", "arguments", "I", false)
  | 8 => ("ProbeLoom$Method", "locals", "I", false)
  | 9 => ("ProbeLoom$Method", "length", "I", false)
  | _ => ("ProbeLoom$Method", "handlerCount", "I", false)
def tyX3 : Nat → FieldType := fun k => match k with
  | 0 => .int
  | 1 => .array .int
  | 2 => .array .int
  | 3 => .array .int
  | 4 => .array .int
  | 5 => .array .int
  | 6 => .object "ProbeLoom$Woven"
  | 7 => .int
  | 8 => .int
  | 9 => .int
  | _ => .int
theorem nmX3 : ∀ a, a < 11 → ∀ b, b < 11 → a ≠ b → (TX3 a).2.1 ≠ (TX3 b).2.1 := by decide +kernel
theorem tyX3_ok : ∀ k, k < 11 → parseFieldDescriptor (TX3 k).2.2.1 = some (tyX3 k) := by decide +kernel
abbrev cX3_init : ByteArray := prog_5_method_1_code
def yX3_init : MethodName := ⟨RX3, "<init>", "(I)V"⟩
abbrev cX3_beginsAt : ByteArray := prog_5_method_2_code
def yX3_beginsAt : MethodName := ⟨RX3, "beginsAt", "(I)Z"⟩
abbrev cX3_jumpFault : ByteArray := prog_5_method_3_code
def yX3_jumpFault : MethodName := ⟨RX3, "jumpFault", "()I"⟩
abbrev cX3_jumpsAstray : ByteArray := prog_5_method_4_code
def yX3_jumpsAstray : MethodName := ⟨RX3, "jumpsAstray", "(I)Z"⟩
abbrev cX3_handlerFault : ByteArray := prog_5_method_5_code
def yX3_handlerFault : MethodName := ⟨RX3, "handlerFault", "()I"⟩
abbrev cX3_takesProbe : ByteArray := prog_5_method_6_code
def yX3_takesProbe : MethodName := ⟨RX3, "takesProbe", "(II)Z"⟩
abbrev cX3_isTarget : ByteArray := prog_5_method_7_code
def yX3_isTarget : MethodName := ⟨RX3, "isTarget", "(I)Z"⟩
abbrev cX3_tell : ByteArray := prog_5_method_8_code
def yX3_tell : MethodName := ⟨RX3, "tell", "(I)I"⟩
abbrev cX3_instructionCount : ByteArray := prog_5_method_9_code
def yX3_instructionCount : MethodName := ⟨RX3, "instructionCount", "()I"⟩
abbrev cX3_greatestHeight : ByteArray := prog_5_method_10_code
def yX3_greatestHeight : MethodName := ⟨RX3, "greatestHeight", "()I"⟩
abbrev cX3_isComeTo : ByteArray := prog_5_method_11_code
def yX3_isComeTo : MethodName := ⟨RX3, "isComeTo", "(I)Z"⟩
abbrev cX3_typeBefore : ByteArray := prog_5_method_12_code
def yX3_typeBefore : MethodName := ⟨RX3, "typeBefore", "(II)I"⟩
def RX4 : String := "ProbeLoom$Probes"
def TX4 : u_T := fun k => match k with
  | 0 => ("ProbeLoom$Probes", "sorts", "[I", true)
  | 1 => ("ProbeLoom$Probes", "owners", "[I", true)
  | 2 => ("ProbeLoom$Probes", "places", "[I", true)
  | 3 => ("ProbeLoom$Probes", "xs", "[I", true)
  | 4 => ("ProbeLoom$Probes", "ys", "[I", true)
  | _ => ("ProbeLoom$Probes", "count", "I", false)
def tyX4 : Nat → FieldType := fun k => match k with
  | 0 => .array .int
  | 1 => .array .int
  | 2 => .array .int
  | 3 => .array .int
  | 4 => .array .int
  | _ => .int
theorem nmX4 : ∀ a, a < 6 → ∀ b, b < 6 → a ≠ b → (TX4 a).2.1 ≠ (TX4 b).2.1 := by decide +kernel
theorem tyX4_ok : ∀ k, k < 6 → parseFieldDescriptor (TX4 k).2.2.1 = some (tyX4 k) := by decide +kernel
abbrev cX4_init : ByteArray := prog_6_method_1_code
def yX4_init : MethodName := ⟨RX4, "<init>", "()V"⟩
abbrev cX4_add : ByteArray := prog_6_method_2_code
def yX4_add : MethodName := ⟨RX4, "add", "(IIIII)I"⟩
abbrev cX4_isAt : ByteArray := prog_6_method_3_code
def yX4_isAt : MethodName := ⟨RX4, "isAt", "(III)Z"⟩
abbrev cX4_sortOf : ByteArray := prog_6_method_4_code
def yX4_sortOf : MethodName := ⟨RX4, "sortOf", "(I)I"⟩
abbrev cX4_xOf : ByteArray := prog_6_method_5_code
def yX4_xOf : MethodName := ⟨RX4, "xOf", "(I)I"⟩
abbrev cX4_yOf : ByteArray := prog_6_method_6_code
def yX4_yOf : MethodName := ⟨RX4, "yOf", "(I)I"⟩
def RX5 : String := "ProbeLoom$Reader"
def TX5 : u_T := fun k => match k with
  | 0 => ("ProbeLoom$Reader", "tape", "[I", false)
  | _ => ("ProbeLoom$Reader", "tapeLength", "I", false)
def tyX5 : Nat → FieldType := fun k => match k with
  | 0 => .array .int
  | _ => .int
theorem nmX5 : ∀ a, a < 2 → ∀ b, b < 2 → a ≠ b → (TX5 a).2.1 ≠ (TX5 b).2.1 := by decide +kernel
theorem tyX5_ok : ∀ k, k < 2 → parseFieldDescriptor (TX5 k).2.2.1 = some (tyX5 k) := by decide +kernel
abbrev cX5_init : ByteArray := prog_7_method_1_code
def yX5_init : MethodName := ⟨RX5, "<init>", "()V"⟩
abbrev cX5_formFault : ByteArray := prog_7_method_2_code
def yX5_formFault : MethodName := ⟨RX5, "formFault", "([IILProbeLoom$Method;)I"⟩
abbrev cX5_headFault : ByteArray := prog_7_method_3_code
def yX5_headFault : MethodName := ⟨RX5, "headFault", "(LProbeLoom$Method;)I"⟩
abbrev cX5_codeFault : ByteArray := prog_7_method_4_code
def yX5_codeFault : MethodName := ⟨RX5, "codeFault", "(LProbeLoom$Method;)I"⟩
abbrev cX5_instructionFault : ByteArray := prog_7_method_5_code
def yX5_instructionFault : MethodName := ⟨RX5, "instructionFault", "(LProbeLoom$Method;I)I"⟩
abbrev cX5_tableFault : ByteArray := prog_7_method_6_code
def yX5_tableFault : MethodName := ⟨RX5, "tableFault", "(LProbeLoom$Method;I)I"⟩
abbrev cX5_operandFits : ByteArray := prog_7_method_7_code
def yX5_operandFits : MethodName := ⟨RX5, "operandFits", "(LProbeLoom$Method;II)Z"⟩
abbrev cX5_tailFault : ByteArray := prog_7_method_8_code
def yX5_tailFault : MethodName := ⟨RX5, "tailFault", "(LProbeLoom$Method;)I"⟩
abbrev cX5_readHandler : ByteArray := prog_7_method_9_code
def yX5_readHandler : MethodName := ⟨RX5, "readHandler", "([III)V"⟩
def RX6 : String := "ProbeLoom$Tale"
def TX6 : u_T := fun k => match k with
  | 0 => ("ProbeLoom$Tale", "fields", "[I", true)
  | 1 => ("ProbeLoom$Tale", "marks", "[I", true)
  | 2 => ("ProbeLoom$Tale", "recordProbes", "[I", true)
  | 3 => ("ProbeLoom$Tale", "recordInts", "[I", true)
  | 4 => ("ProbeLoom$Tale", "ending", "I", false)
  | 5 => ("ProbeLoom$Tale", "answer", "I", false)
  | 6 => ("ProbeLoom$Tale", "steps", "I", false)
  | 7 => ("ProbeLoom$Tale", "rows", "I", false)
  | 8 => ("ProbeLoom$Tale", "mostFrames", "I", false)
  | 9 => ("ProbeLoom$Tale", "thrownPlace", "I", false)
  | 10 => ("ProbeLoom$Tale", "thrownMethod", "I", false)
  | 11 => ("ProbeLoom$Tale", "markCount", "I", false)
  | _ => ("ProbeLoom$Tale", "recordCount", "I", false)
def tyX6 : Nat → FieldType := fun k => match k with
  | 0 => .array .int
  | 1 => .array .int
  | 2 => .array .int
  | 3 => .array .int
  | 4 => .int
  | 5 => .int
  | 6 => .int
  | 7 => .int
  | 8 => .int
  | 9 => .int
  | 10 => .int
  | 11 => .int
  | _ => .int
theorem nmX6 : ∀ a, a < 13 → ∀ b, b < 13 → a ≠ b → (TX6 a).2.1 ≠ (TX6 b).2.1 := by decide +kernel
theorem tyX6_ok : ∀ k, k < 13 → parseFieldDescriptor (TX6 k).2.2.1 = some (tyX6 k) := by decide +kernel
abbrev cX6_init : ByteArray := prog_8_method_1_code
def yX6_init : MethodName := ⟨RX6, "<init>", "()V"⟩
abbrev cX6_startAnew : ByteArray := prog_8_method_2_code
def yX6_startAnew : MethodName := ⟨RX6, "startAnew", "()V"⟩
abbrev cX6_addMark : ByteArray := prog_8_method_3_code
def yX6_addMark : MethodName := ⟨RX6, "addMark", "(I)V"⟩
abbrev cX6_addRecord : ByteArray := prog_8_method_4_code
def yX6_addRecord : MethodName := ⟨RX6, "addRecord", "(II)V"⟩
abbrev cX6_recordsKept : ByteArray := prog_8_method_5_code
def yX6_recordsKept : MethodName := ⟨RX6, "recordsKept", "()I"⟩
abbrev cX6_markAt : ByteArray := prog_8_method_6_code
def yX6_markAt : MethodName := ⟨RX6, "markAt", "(I)I"⟩
abbrev cX6_recordPart : ByteArray := prog_8_method_7_code
def yX6_recordPart : MethodName := ⟨RX6, "recordPart", "(II)I"⟩
abbrev cX6_recordsOf : ByteArray := prog_8_method_8_code
def yX6_recordsOf : MethodName := ⟨RX6, "recordsOf", "(I)I"⟩
abbrev cX6_tell : ByteArray := prog_8_method_9_code
def yX6_tell : MethodName := ⟨RX6, "tell", "(I)I"⟩
def RX7 : String := "ProbeLoom$Weaver"
def TX7 : u_T := fun k => match k with
  | 0 => ("ProbeLoom$Weaver", "ahead", "[I", true)
  | 1 => ("ProbeLoom$Weaver", "behind", "[I", true)
  | 2 => ("ProbeLoom$Weaver", "sides", "[I", true)
  | 3 => ("ProbeLoom$Weaver", "caught", "[I", true)
  | 4 => ("ProbeLoom$Weaver", "groups", "[I", true)
  | 5 => ("ProbeLoom$Weaver", "selves", "[I", true)
  | 6 => ("ProbeLoom$Weaver", "sidePads", "[I", true)
  | 7 => ("ProbeLoom$Weaver", "caughtPads", "[I", true)
  | 8 => ("ProbeLoom$Weaver", "jumpGrew", "[Z", true)
  | 9 => ("ProbeLoom$Weaver", "sidePadGrew", "[Z", true)
  | 10 => ("ProbeLoom$Weaver", "caughtPadGrew", "[Z", true)
  | 11 => ("ProbeLoom$Weaver", "enters", "I", false)
  | 12 => ("ProbeLoom$Weaver", "leaves", "I", false)
  | 13 => ("ProbeLoom$Weaver", "padCount", "I", false)
  | 14 => ("ProbeLoom$Weaver", "leftPad", "I", false)
  | 15 => ("ProbeLoom$Weaver", "total", "I", false)
  | _ => ("ProbeLoom$Weaver", "at", "I", false)
def tyX7 : Nat → FieldType := fun k => match k with
  | 0 => .array .int
  | 1 => .array .int
  | 2 => .array .int
  | 3 => .array .int
  | 4 => .array .int
  | 5 => .array .int
  | 6 => .array .int
  | 7 => .array .int
  | 8 => .array .boolean
  | 9 => .array .boolean
  | 10 => .array .boolean
  | 11 => .int
  | 12 => .int
  | 13 => .int
  | 14 => .int
  | 15 => .int
  | _ => .int
theorem nmX7 : ∀ a, a < 17 → ∀ b, b < 17 → a ≠ b → (TX7 a).2.1 ≠ (TX7 b).2.1 := by decide +kernel
theorem tyX7_ok : ∀ k, k < 17 → parseFieldDescriptor (TX7 k).2.2.1 = some (tyX7 k) := by decide +kernel
abbrev cX7_init : ByteArray := prog_9_method_1_code
def yX7_init : MethodName := ⟨RX7, "<init>", "()V"⟩
abbrev cX7_weaveIn : ByteArray := prog_9_method_2_code
def yX7_weaveIn : MethodName := ⟨RX7, "weaveIn", "(LProbeLoom$Method;LProbeLoom$Probes;)I"⟩
abbrev cX7_startAnew : ByteArray := prog_9_method_3_code
def yX7_startAnew : MethodName := ⟨RX7, "startAnew", "()V"⟩
abbrev cX7_countProbes : ByteArray := prog_9_method_4_code
def yX7_countProbes : MethodName := ⟨RX7, "countProbes", "(LProbeLoom$Method;LProbeLoom$Probes;)V"⟩
abbrev cX7_countProbe : ByteArray := prog_9_method_5_code
def yX7_countProbe : MethodName := ⟨RX7, "countProbe", "(II)V"⟩
abbrev cX7_layAll : ByteArray := prog_9_method_6_code
def yX7_layAll : MethodName := ⟨RX7, "layAll", "(LProbeLoom$Method;)V"⟩
abbrev cX7_caughtAt : ByteArray := prog_9_method_7_code
def yX7_caughtAt : MethodName := ⟨RX7, "caughtAt", "(LProbeLoom$Method;I)I"⟩
abbrev cX7_groupAt : ByteArray := prog_9_method_8_code
def yX7_groupAt : MethodName := ⟨RX7, "groupAt", "(I)I"⟩
abbrev cX7_reaches : ByteArray := prog_9_method_9_code
def yX7_reaches : MethodName := ⟨RX7, "reaches", "(II)Z"⟩
abbrev cX7_leadsTo : ByteArray := prog_9_method_10_code
def yX7_leadsTo : MethodName := ⟨RX7, "leadsTo", "(LProbeLoom$Method;II)I"⟩
abbrev cX7_growJumps : ByteArray := prog_9_method_11_code
def yX7_growJumps : MethodName := ⟨RX7, "growJumps", "(LProbeLoom$Method;)Z"⟩
abbrev cX7_growCaughtPads : ByteArray := prog_9_method_12_code
def yX7_growCaughtPads : MethodName := ⟨RX7, "growCaughtPads", "(LProbeLoom$Method;)Z"⟩
abbrev cX7_writeAll : ByteArray := prog_9_method_13_code
def yX7_writeAll : MethodName := ⟨RX7, "writeAll", "(LProbeLoom$Method;LProbeLoom$Probes;)V"⟩
abbrev cX7_writeAhead : ByteArray := prog_9_method_14_code
def yX7_writeAhead : MethodName := ⟨RX7, "writeAhead", "(LProbeLoom$Method;LProbeLoom$Probes;I)V"⟩
abbrev cX7_writeProbes : ByteArray := prog_9_method_15_code
def yX7_writeProbes : MethodName := ⟨RX7, "writeProbes", "(LProbeLoom$Method;LProbeLoom$Probes;III)V"⟩
abbrev cX7_aheadOp : ByteArray := prog_9_method_16_code
def yX7_aheadOp : MethodName := ⟨RX7, "aheadOp", "(I)I"⟩
abbrev cX7_writeInstruction : ByteArray := prog_9_method_17_code
def yX7_writeInstruction : MethodName := ⟨RX7, "writeInstruction", "(LProbeLoom$Method;I)V"⟩
abbrev cX7_writeBehind : ByteArray := prog_9_method_18_code
def yX7_writeBehind : MethodName := ⟨RX7, "writeBehind", "(LProbeLoom$Method;LProbeLoom$Probes;I)V"⟩
abbrev cX7_writeSidePads : ByteArray := prog_9_method_19_code
def yX7_writeSidePads : MethodName := ⟨RX7, "writeSidePads", "(LProbeLoom$Method;LProbeLoom$Probes;)V"⟩
abbrev cX7_writeCaughtPads : ByteArray := prog_9_method_20_code
def yX7_writeCaughtPads : MethodName := ⟨RX7, "writeCaughtPads", "(LProbeLoom$Method;LProbeLoom$Probes;)V"⟩
abbrev cX7_writeLeftPad : ByteArray := prog_9_method_21_code
def yX7_writeLeftPad : MethodName := ⟨RX7, "writeLeftPad", "(LProbeLoom$Method;LProbeLoom$Probes;)V"⟩
abbrev cX7_writeHandlers : ByteArray := prog_9_method_22_code
def yX7_writeHandlers : MethodName := ⟨RX7, "writeHandlers", "(LProbeLoom$Method;)V"⟩
abbrev cX7_writeHandler : ByteArray := prog_9_method_23_code
def yX7_writeHandler : MethodName := ⟨RX7, "writeHandler", "([IIIIII)V"⟩
abbrev cX7_writeSide : ByteArray := prog_9_method_24_code
def yX7_writeSide : MethodName := ⟨RX7, "writeSide", "(LProbeLoom$Woven;III)V"⟩
abbrev cX7_writeJump : ByteArray := prog_9_method_25_code
def yX7_writeJump : MethodName := ⟨RX7, "writeJump", "(LProbeLoom$Woven;III)V"⟩
abbrev cX7_writePair : ByteArray := prog_9_method_26_code
def yX7_writePair : MethodName := ⟨RX7, "writePair", "(LProbeLoom$Woven;II)V"⟩
abbrev cX7_writeByte : ByteArray := prog_9_method_27_code
def yX7_writeByte : MethodName := ⟨RX7, "writeByte", "(LProbeLoom$Woven;II)V"⟩
def RX8 : String := "ProbeLoom$Woven"
def TX8 : u_T := fun k => match k with
  | 0 => ("ProbeLoom$Woven", "code", "[I", true)
  | 1 => ("ProbeLoom$Woven", "homes", "[I", true)
  | 2 => ("ProbeLoom$Woven", "selves", "[I", true)
  | 3 => ("ProbeLoom$Woven", "busy", "[Z", true)
  | 4 => ("ProbeLoom$Woven", "handlers", "[I", true)
  | 5 => ("ProbeLoom$Woven", "there", "Z", false)
  | 6 => ("ProbeLoom$Woven", "length", "I", false)
  | 7 => ("ProbeLoom$Woven", "handlerCount", "I", false)
  | 8 => ("ProbeLoom$Woven", "grown", "I", false)
  | 9 => ("ProbeLoom$Woven", "pads", "I", false)
  | _ => ("ProbeLoom$Woven", "probeCount", "I", false)
def tyX8 : Nat → FieldType := fun k => match k with
  | 0 => .array .int
  | 1 => .array .int
  | 2 => .array .int
  | 3 => .array .boolean
  | 4 => .array .int
  | 5 => .boolean
  | 6 => .int
  | 7 => .int
  | 8 => .int
  | 9 => .int
  | _ => .int
theorem nmX8 : ∀ a, a < 11 → ∀ b, b < 11 → a ≠ b → (TX8 a).2.1 ≠ (TX8 b).2.1 := by decide +kernel
theorem tyX8_ok : ∀ k, k < 11 → parseFieldDescriptor (TX8 k).2.2.1 = some (tyX8 k) := by decide +kernel
abbrev cX8_init : ByteArray := prog_10_method_1_code
def yX8_init : MethodName := ⟨RX8, "<init>", "()V"⟩
abbrev cX8_lengthIfThere : ByteArray := prog_10_method_2_code
def yX8_lengthIfThere : MethodName := ⟨RX8, "lengthIfThere", "()I"⟩
abbrev cX8_handlersIfThere : ByteArray := prog_10_method_3_code
def yX8_handlersIfThere : MethodName := ⟨RX8, "handlersIfThere", "()I"⟩
abbrev cX8_tell : ByteArray := prog_10_method_4_code
def yX8_tell : MethodName := ⟨RX8, "tell", "(I)I"⟩
abbrev cX8_homeOf : ByteArray := prog_10_method_5_code
def yX8_homeOf : MethodName := ⟨RX8, "homeOf", "(I)I"⟩
abbrev cX8_isBusyAt : ByteArray := prog_10_method_6_code
def yX8_isBusyAt : MethodName := ⟨RX8, "isBusyAt", "(I)Z"⟩
def RX9 : String := "ProbeLoom"
def TX9 : u_T := fun k => match k with
  | 0 => ("ProbeLoom", "tape", "[I", true)
  | 1 => ("ProbeLoom", "methods", "[LProbeLoom$Method;", true)
  | 2 => ("ProbeLoom", "tales", "[LProbeLoom$Tale;", true)
  | 3 => ("ProbeLoom", "probes", "LProbeLoom$Probes;", true)
  | 4 => ("ProbeLoom", "reader", "LProbeLoom$Reader;", true)
  | 5 => ("ProbeLoom", "judge", "LProbeLoom$Judge;", true)
  | 6 => ("ProbeLoom", "weaver", "LProbeLoom$Weaver;", true)
  | 7 => ("ProbeLoom", "machine", "LProbeLoom$Machine;", true)
  | 8 => ("ProbeLoom", "tapeLength", "I", false)
  | 9 => ("ProbeLoom", "methodCount", "I", false)
  | 10 => ("ProbeLoom", "faultPlace", "I", false)
  | _ => ("ProbeLoom", "runCount", "I", false)
def tyX9 : Nat → FieldType := fun k => match k with
  | 0 => .array .int
  | 1 => .array (.object "ProbeLoom$Method")
  | 2 => .array (.object "ProbeLoom$Tale")
  | 3 => .object "ProbeLoom$Probes"
  | 4 => .object "ProbeLoom$Reader"
  | 5 => .object "ProbeLoom$Judge"
  | 6 => .object "ProbeLoom$Weaver"
  | 7 => .object "ProbeLoom$Machine"
  | 8 => .int
  | 9 => .int
  | 10 => .int
  | _ => .int
theorem nmX9 : ∀ a, a < 12 → ∀ b, b < 12 → a ≠ b → (TX9 a).2.1 ≠ (TX9 b).2.1 := by decide +kernel
theorem tyX9_ok : ∀ k, k < 12 → parseFieldDescriptor (TX9 k).2.2.1 = some (tyX9 k) := by decide +kernel
abbrev cX9_init : ByteArray := prog_1_method_1_code
def yX9_init : MethodName := ⟨RX9, "<init>", "()V"⟩
abbrev cX9_feed : ByteArray := prog_1_method_2_code
def yX9_feed : MethodName := ⟨RX9, "feed", "(IIIII)I"⟩
abbrev cX9_cut : ByteArray := prog_1_method_3_code
def yX9_cut : MethodName := ⟨RX9, "cut", "(I)I"⟩
abbrev cX9_make : ByteArray := prog_1_method_4_code
def yX9_make : MethodName := ⟨RX9, "make", "()I"⟩
abbrev cX9_place : ByteArray := prog_1_method_5_code
def yX9_place : MethodName := ⟨RX9, "place", "()I"⟩
abbrev cX9_method : ByteArray := prog_1_method_6_code
def yX9_method : MethodName := ⟨RX9, "method", "(II)I"⟩
abbrev cX9_octet : ByteArray := prog_1_method_7_code
def yX9_octet : MethodName := ⟨RX9, "octet", "(IZI)I"⟩
abbrev cX9_handler : ByteArray := prog_1_method_8_code
def yX9_handler : MethodName := ⟨RX9, "handler", "(IZII)I"⟩
abbrev cX9_type : ByteArray := prog_1_method_9_code
def yX9_type : MethodName := ⟨RX9, "type", "(III)I"⟩
abbrev cX9_moved : ByteArray := prog_1_method_10_code
def yX9_moved : MethodName := ⟨RX9, "moved", "(II)I"⟩
abbrev cX9_probe : ByteArray := prog_1_method_11_code
def yX9_probe : MethodName := ⟨RX9, "probe", "(IIIII)I"⟩
abbrev cX9_clear : ByteArray := prog_1_method_12_code
def yX9_clear : MethodName := ⟨RX9, "clear", "()I"⟩
abbrev cX9_weave : ByteArray := prog_1_method_13_code
def yX9_weave : MethodName := ⟨RX9, "weave", "(I)I"⟩
abbrev cX9_unweave : ByteArray := prog_1_method_14_code
def yX9_unweave : MethodName := ⟨RX9, "unweave", "(I)I"⟩
abbrev cX9_run : ByteArray := prog_1_method_15_code
def yX9_run : MethodName := ⟨RX9, "run", "(IIIII)I"⟩
abbrev cX9_told : ByteArray := prog_1_method_16_code
def yX9_told : MethodName := ⟨RX9, "told", "(II)I"⟩
abbrev cX9_mark : ByteArray := prog_1_method_17_code
def yX9_mark : MethodName := ⟨RX9, "mark", "(II)I"⟩
abbrev cX9_field : ByteArray := prog_1_method_18_code
def yX9_field : MethodName := ⟨RX9, "field", "(II)I"⟩
abbrev cX9_record : ByteArray := prog_1_method_19_code
def yX9_record : MethodName := ⟨RX9, "record", "(III)I"⟩
abbrev cX9_records : ByteArray := prog_1_method_20_code
def yX9_records : MethodName := ⟨RX9, "records", "(II)I"⟩
abbrev cX9_differ : ByteArray := prog_1_method_21_code
def yX9_differ : MethodName := ⟨RX9, "differ", "()I"⟩
abbrev cX9_count : ByteArray := prog_1_method_22_code
def yX9_count : MethodName := ⟨RX9, "count", "(I)I"⟩
abbrev cX9_appendWord : ByteArray := prog_1_method_23_code
def yX9_appendWord : MethodName := ⟨RX9, "appendWord", "(I)V"⟩
abbrev cX9_findFault : ByteArray := prog_1_method_24_code
def yX9_findFault : MethodName := ⟨RX9, "findFault", "(LProbeLoom$Method;I)I"⟩
abbrev cX9_isMethod : ByteArray := prog_1_method_25_code
def yX9_isMethod : MethodName := ⟨RX9, "isMethod", "(I)Z"⟩
abbrev cX9_isManner : ByteArray := prog_1_method_26_code
def yX9_isManner : MethodName := ⟨RX9, "isManner", "(I)Z"⟩
abbrev cX9_byteAt : ByteArray := prog_1_method_27_code
def yX9_byteAt : MethodName := ⟨RX9, "byteAt", "([II)I"⟩
abbrev cX9_signedByteAt : ByteArray := prog_1_method_28_code
def yX9_signedByteAt : MethodName := ⟨RX9, "signedByteAt", "([II)I"⟩
abbrev cX9_signedPairAt : ByteArray := prog_1_method_29_code
def yX9_signedPairAt : MethodName := ⟨RX9, "signedPairAt", "([II)I"⟩
abbrev cX9_wordAt : ByteArray := prog_1_method_30_code
def yX9_wordAt : MethodName := ⟨RX9, "wordAt", "([II)I"⟩
abbrev cX9_handlerPart : ByteArray := prog_1_method_31_code
def yX9_handlerPart : MethodName := ⟨RX9, "handlerPart", "([III)I"⟩
abbrev cX9_isLongJump : ByteArray := prog_1_method_32_code
def yX9_isLongJump : MethodName := ⟨RX9, "isLongJump", "(I)Z"⟩
abbrev cX9_isShortJump : ByteArray := prog_1_method_33_code
def yX9_isShortJump : MethodName := ⟨RX9, "isShortJump", "(I)Z"⟩
abbrev cX9_shortOf : ByteArray := prog_1_method_34_code
def yX9_shortOf : MethodName := ⟨RX9, "shortOf", "(I)I"⟩
abbrev cX9_isChoice : ByteArray := prog_1_method_35_code
def yX9_isChoice : MethodName := ⟨RX9, "isChoice", "(I)Z"⟩
abbrev cX9_isOp : ByteArray := prog_1_method_36_code
def yX9_isOp : MethodName := ⟨RX9, "isOp", "(I)Z"⟩
abbrev cX9_fixedSize : ByteArray := prog_1_method_37_code
def yX9_fixedSize : MethodName := ⟨RX9, "fixedSize", "(I)I"⟩
abbrev cX9_tableSize : ByteArray := prog_1_method_38_code
def yX9_tableSize : MethodName := ⟨RX9, "tableSize", "(I)I"⟩
abbrev cX9_sizeAt : ByteArray := prog_1_method_39_code
def yX9_sizeAt : MethodName := ⟨RX9, "sizeAt", "([II)I"⟩
abbrev cX9_targetCount : ByteArray := prog_1_method_40_code
def yX9_targetCount : MethodName := ⟨RX9, "targetCount", "([II)I"⟩
abbrev cX9_targetAt : ByteArray := prog_1_method_41_code
def yX9_targetAt : MethodName := ⟨RX9, "targetAt", "([III)I"⟩
abbrev cX9_goesOn : ByteArray := prog_1_method_42_code
def yX9_goesOn : MethodName := ⟨RX9, "goesOn", "(I)Z"⟩
abbrev cX9_isReplaceable : ByteArray := prog_1_method_43_code
def yX9_isReplaceable : MethodName := ⟨RX9, "isReplaceable", "(I)Z"⟩
def RX10 : String := "ProbeLoomModel"
def TX10 : u_T := fun k => match k with
  | 0 => ("ProbeLoomModel", "tape", "[I", true)
  | 1 => ("ProbeLoomModel", "taped", "I", false)
  | 2 => ("ProbeLoomModel", "faultPlace", "I", false)
  | 3 => ("ProbeLoomModel", "methods", "I", false)
  | 4 => ("ProbeLoomModel", "arguments", "[I", true)
  | 5 => ("ProbeLoomModel", "locals", "[I", true)
  | 6 => ("ProbeLoomModel", "length", "[I", true)
  | 7 => ("ProbeLoomModel", "code", "[I", true)
  | 8 => ("ProbeLoomModel", "handlers", "[I", true)
  | 9 => ("ProbeLoomModel", "from", "[I", true)
  | 10 => ("ProbeLoomModel", "to", "[I", true)
  | 11 => ("ProbeLoomModel", "target", "[I", true)
  | 12 => ("ProbeLoomModel", "kindOf", "[I", true)
  | 13 => ("ProbeLoomModel", "begins", "[Z", true)
  | 14 => ("ProbeLoomModel", "height", "[I", true)
  | 15 => ("ProbeLoomModel", "local", "[I", true)
  | 16 => ("ProbeLoomModel", "cell", "[I", true)
  | 17 => ("ProbeLoomModel", "probes", "I", false)
  | 18 => ("ProbeLoomModel", "sort", "[I", true)
  | 19 => ("ProbeLoomModel", "method", "[I", true)
  | 20 => ("ProbeLoomModel", "place", "[I", true)
  | 21 => ("ProbeLoomModel", "px", "[I", true)
  | 22 => ("ProbeLoomModel", "py", "[I", true)
  | 23 => ("ProbeLoomModel", "wovenWith", "[I", true)
  | 24 => ("ProbeLoomModel", "wCode", "[I", true)
  | 25 => ("ProbeLoomModel", "wLength", "[I", true)
  | 26 => ("ProbeLoomModel", "wOrigin", "[I", true)
  | 27 => ("ProbeLoomModel", "wHandlers", "[I", true)
  | 28 => ("ProbeLoomModel", "wFrom", "[I", true)
  | 29 => ("ProbeLoomModel", "wTo", "[I", true)
  | 30 => ("ProbeLoomModel", "wTarget", "[I", true)
  | 31 => ("ProbeLoomModel", "wKind", "[I", true)
  | 32 => ("ProbeLoomModel", "wMoved", "[I", true)
  | 33 => ("ProbeLoomModel", "wGrown", "[I", true)
  | 34 => ("ProbeLoomModel", "wPads", "[I", true)
  | 35 => ("ProbeLoomModel", "local1", "[I", true)
  | 36 => ("ProbeLoomModel", "cell1", "[I", true)
  | 37 => ("ProbeLoomModel", "high1", "I", false)
  | 38 => ("ProbeLoomModel", "isTyped", "Z", false)
  | 39 => ("ProbeLoomModel", "moves", "Z", false)
  | 40 => ("ProbeLoomModel", "aCode", "[I", true)
  | 41 => ("ProbeLoomModel", "aOrigin", "[I", true)
  | 42 => ("ProbeLoomModel", "laid", "I", false)
  | 43 => ("ProbeLoomModel", "groupAt", "[I", true)
  | 44 => ("ProbeLoomModel", "movedAt", "[I", true)
  | 45 => ("ProbeLoomModel", "padAt", "[I", true)
  | 46 => ("ProbeLoomModel", "isLong", "[Z", true)
  | 47 => ("ProbeLoomModel", "pads", "I", false)
  | 48 => ("ProbeLoomModel", "lefts", "I", false)
  | 49 => ("ProbeLoomModel", "needs", "[I", true)
  | 50 => ("ProbeLoomModel", "manner", "I", false)
  | 51 => ("ProbeLoomModel", "limit", "I", false)
  | 52 => ("ProbeLoomModel", "ends", "I", false)
  | 53 => ("ProbeLoomModel", "steps", "I", false)
  | 54 => ("ProbeLoomModel", "frames", "I", false)
  | 55 => ("ProbeLoomModel", "most", "I", false)
  | 56 => ("ProbeLoomModel", "frameMethod", "[I", true)
  | 57 => ("ProbeLoomModel", "frameAt", "[I", true)
  | 58 => ("ProbeLoomModel", "frameHigh", "[I", true)
  | 59 => ("ProbeLoomModel", "frameLocal", "[I", true)
  | 60 => ("ProbeLoomModel", "frameCell", "[I", true)
  | 61 => ("ProbeLoomModel", "rowSize", "[I", true)
  | 62 => ("ProbeLoomModel", "rowItem", "[I", true)
  | 63 => ("ProbeLoomModel", "rowMany", "I", false)
  | 64 => ("ProbeLoomModel", "fields", "[I", true)
  | 65 => ("ProbeLoomModel", "thrown", "I", false)
  | 66 => ("ProbeLoomModel", "thrownMethod", "I", false)
  | 67 => ("ProbeLoomModel", "thrownAt", "I", false)
  | 68 => ("ProbeLoomModel", "answer", "I", false)
  | 69 => ("ProbeLoomModel", "passed", "[I", true)
  | 70 => ("ProbeLoomModel", "oldValue", "[I", true)
  | 71 => ("ProbeLoomModel", "oldRow", "[I", true)
  | 72 => ("ProbeLoomModel", "oldIndex", "[I", true)
  | 73 => ("ProbeLoomModel", "runs", "I", false)
  | 74 => ("ProbeLoomModel", "was", "[I", true)
  | 75 => ("ProbeLoomModel", "gave", "[I", true)
  | 76 => ("ProbeLoomModel", "did", "[I", true)
  | 77 => ("ProbeLoomModel", "marked", "[I", true)
  | 78 => ("ProbeLoomModel", "recorded", "[I", true)
  | 79 => ("ProbeLoomModel", "rowsMade", "[I", true)
  | 80 => ("ProbeLoomModel", "atPlace", "[I", true)
  | 81 => ("ProbeLoomModel", "atMethod", "[I", true)
  | 82 => ("ProbeLoomModel", "mostFrames", "[I", true)
  | 83 => ("ProbeLoomModel", "markOf", "[I", true)
  | 84 => ("ProbeLoomModel", "fieldOf", "[I", true)
  | 85 => ("ProbeLoomModel", "recordProbe", "[I", true)
  | _ => ("ProbeLoomModel", "recordValue", "[I", true)
def tyX10 : Nat → FieldType := fun k => match k with
  | 0 => .array .int
  | 1 => .int
  | 2 => .int
  | 3 => .int
  | 4 => .array .int
  | 5 => .array .int
  | 6 => .array .int
  | 7 => .array .int
  | 8 => .array .int
  | 9 => .array .int
  | 10 => .array .int
  | 11 => .array .int
  | 12 => .array .int
  | 13 => .array .boolean
  | 14 => .array .int
  | 15 => .array .int
  | 16 => .array .int
  | 17 => .int
  | 18 => .array .int
  | 19 => .array .int
  | 20 => .array .int
  | 21 => .array .int
  | 22 => .array .int
  | 23 => .array .int
  | 24 => .array .int
  | 25 => .array .int
  | 26 => .array .int
  | 27 => .array .int
  | 28 => .array .int
  | 29 => .array .int
  | 30 => .array .int
  | 31 => .array .int
  | 32 => .array .int
  | 33 => .array .int
  | 34 => .array .int
  | 35 => .array .int
  | 36 => .array .int
  | 37 => .int
  | 38 => .boolean
  | 39 => .boolean
  | 40 => .array .int
  | 41 => .array .int
  | 42 => .int
  | 43 => .array .int
  | 44 => .array .int
  | 45 => .array .int
  | 46 => .array .boolean
  | 47 => .int
  | 48 => .int
  | 49 => .array .int
  | 50 => .int
  | 51 => .int
  | 52 => .int
  | 53 => .int
  | 54 => .int
  | 55 => .int
  | 56 => .array .int
  | 57 => .array .int
  | 58 => .array .int
  | 59 => .array .int
  | 60 => .array .int
  | 61 => .array .int
  | 62 => .array .int
  | 63 => .int
  | 64 => .array .int
  | 65 => .int
  | 66 => .int
  | 67 => .int
  | 68 => .int
  | 69 => .array .int
  | 70 => .array .int
  | 71 => .array .int
  | 72 => .array .int
  | 73 => .int
  | 74 => .array .int
  | 75 => .array .int
  | 76 => .array .int
  | 77 => .array .int
  | 78 => .array .int
  | 79 => .array .int
  | 80 => .array .int
  | 81 => .array .int
  | 82 => .array .int
  | 83 => .array .int
  | 84 => .array .int
  | 85 => .array .int
  | _ => .array .int
theorem nmX10 : ∀ a, a < 87 → ∀ b, b < 87 → a ≠ b → (TX10 a).2.1 ≠ (TX10 b).2.1 := by decide +kernel
theorem tyX10_ok : ∀ k, k < 87 → parseFieldDescriptor (TX10 k).2.2.1 = some (tyX10 k) := by decide +kernel
abbrev cX10_init : ByteArray := prog_12_method_1_code
def yX10_init : MethodName := ⟨RX10, "<init>", "()V"⟩
abbrev cX10_in : ByteArray := prog_12_method_2_code
def yX10_in : MethodName := ⟨RX10, "in", "(III)Z"⟩
abbrev cX10_feed : ByteArray := prog_12_method_3_code
def yX10_feed : MethodName := ⟨RX10, "feed", "(IIIII)I"⟩
abbrev cX10_four : ByteArray := prog_12_method_4_code
def yX10_four : MethodName := ⟨RX10, "four", "(I)V"⟩
abbrev cX10_cut : ByteArray := prog_12_method_5_code
def yX10_cut : MethodName := ⟨RX10, "cut", "(I)I"⟩
abbrev cX10_isOp : ByteArray := prog_12_method_6_code
def yX10_isOp : MethodName := ⟨RX10, "isOp", "(I)Z"⟩
abbrev cX10_sizeOf : ByteArray := prog_12_method_7_code
def yX10_sizeOf : MethodName := ⟨RX10, "sizeOf", "(II)I"⟩
abbrev cX10_s16 : ByteArray := prog_12_method_8_code
def yX10_s16 : MethodName := ⟨RX10, "s16", "(II)I"⟩
abbrev cX10_s8 : ByteArray := prog_12_method_9_code
def yX10_s8 : MethodName := ⟨RX10, "s8", "(I)I"⟩
abbrev cX10_size : ByteArray := prog_12_method_10_code
def yX10_size : MethodName := ⟨RX10, "size", "(II)I"⟩
abbrev cX10_isJump : ByteArray := prog_12_method_11_code
def yX10_isJump : MethodName := ⟨RX10, "isJump", "(I)Z"⟩
abbrev cX10_leads : ByteArray := prog_12_method_12_code
def yX10_leads : MethodName := ⟨RX10, "leads", "(III)I"⟩
abbrev cX10_jumps : ByteArray := prog_12_method_13_code
def yX10_jumps : MethodName := ⟨RX10, "jumps", "(II)I"⟩
abbrev cX10_fault : ByteArray := prog_12_method_14_code
def yX10_fault : MethodName := ⟨RX10, "fault", "(II)I"⟩
abbrev cX10_make : ByteArray := prog_12_method_15_code
def yX10_make : MethodName := ⟨RX10, "make", "()I"⟩
abbrev cX10_place : ByteArray := prog_12_method_16_code
def yX10_place : MethodName := ⟨RX10, "place", "()I"⟩
abbrev cX10_form : ByteArray := prog_12_method_17_code
def yX10_form : MethodName := ⟨RX10, "form", "(II)I"⟩
abbrev cX10_instruction : ByteArray := prog_12_method_18_code
def yX10_instruction : MethodName := ⟨RX10, "instruction", "(III)I"⟩
abbrev cX10_rest : ByteArray := prog_12_method_19_code
def yX10_rest : MethodName := ⟨RX10, "rest", "(III)I"⟩
abbrev cX10_isBegin : ByteArray := prog_12_method_20_code
def yX10_isBegin : MethodName := ⟨RX10, "isBegin", "(II)Z"⟩
abbrev cX10_wrongJump : ByteArray := prog_12_method_21_code
def yX10_wrongJump : MethodName := ⟨RX10, "wrongJump", "(I)I"⟩
abbrev cX10_wrongHandler : ByteArray := prog_12_method_22_code
def yX10_wrongHandler : MethodName := ⟨RX10, "wrongHandler", "(I)I"⟩
abbrev cX10_types : ByteArray := prog_12_method_23_code
def yX10_types : MethodName := ⟨RX10, "types", "(I)Z"⟩
abbrev cX10_comes : ByteArray := prog_12_method_24_code
def yX10_comes : MethodName := ⟨RX10, "comes", "(II)V"⟩
abbrev cX10_lay : ByteArray := prog_12_method_25_code
def yX10_lay : MethodName := ⟨RX10, "lay", "(II)V"⟩
abbrev cX10_passes : ByteArray := prog_12_method_26_code
def yX10_passes : MethodName := ⟨RX10, "passes", "(II)V"⟩
abbrev cX10_pull : ByteArray := prog_12_method_27_code
def yX10_pull : MethodName := ⟨RX10, "pull", "()I"⟩
abbrev cX10_ints : ByteArray := prog_12_method_28_code
def yX10_ints : MethodName := ⟨RX10, "ints", "(I)V"⟩
abbrev cX10_push : ByteArray := prog_12_method_29_code
def yX10_push : MethodName := ⟨RX10, "push", "(I)V"⟩
abbrev cX10_effect : ByteArray := prog_12_method_30_code
def yX10_effect : MethodName := ⟨RX10, "effect", "(III)V"⟩
abbrev cX10_taken : ByteArray := prog_12_method_31_code
def yX10_taken : MethodName := ⟨RX10, "taken", "(I)I"⟩
abbrev cX10_rows : ByteArray := prog_12_method_32_code
def yX10_rows : MethodName := ⟨RX10, "rows", "(I)V"⟩
abbrev cX10_isMethod : ByteArray := prog_12_method_33_code
def yX10_isMethod : MethodName := ⟨RX10, "isMethod", "(I)Z"⟩
abbrev cX10_isWoven : ByteArray := prog_12_method_34_code
def yX10_isWoven : MethodName := ⟨RX10, "isWoven", "(I)Z"⟩
abbrev cX10_method : ByteArray := prog_12_method_35_code
def yX10_method : MethodName := ⟨RX10, "method", "(II)I"⟩
abbrev cX10_instructions : ByteArray := prog_12_method_36_code
def yX10_instructions : MethodName := ⟨RX10, "instructions", "(IZ)I"⟩
abbrev cX10_octet : ByteArray := prog_12_method_37_code
def yX10_octet : MethodName := ⟨RX10, "octet", "(IZI)I"⟩
abbrev cX10_handler : ByteArray := prog_12_method_38_code
def yX10_handler : MethodName := ⟨RX10, "handler", "(IZII)I"⟩
abbrev cX10_type : ByteArray := prog_12_method_39_code
def yX10_type : MethodName := ⟨RX10, "type", "(III)I"⟩
abbrev cX10_moved : ByteArray := prog_12_method_40_code
def yX10_moved : MethodName := ⟨RX10, "moved", "(II)I"⟩
abbrev cX10_isTarget : ByteArray := prog_12_method_41_code
def yX10_isTarget : MethodName := ⟨RX10, "isTarget", "(II)Z"⟩
abbrev cX10_fits : ByteArray := prog_12_method_42_code
def yX10_fits : MethodName := ⟨RX10, "fits", "(IIIII)Z"⟩
abbrev cX10_probe : ByteArray := prog_12_method_43_code
def yX10_probe : MethodName := ⟨RX10, "probe", "(IIIII)I"⟩
abbrev cX10_clear : ByteArray := prog_12_method_44_code
def yX10_clear : MethodName := ⟨RX10, "clear", "()I"⟩
abbrev cX10_stands : ByteArray := prog_12_method_45_code
def yX10_stands : MethodName := ⟨RX10, "stands", "(IIIII)Z"⟩
abbrev cX10_howMany : ByteArray := prog_12_method_46_code
def yX10_howMany : MethodName := ⟨RX10, "howMany", "(IIII)I"⟩
abbrev cX10_put : ByteArray := prog_12_method_47_code
def yX10_put : MethodName := ⟨RX10, "put", "(I)V"⟩
abbrev cX10_probeOp : ByteArray := prog_12_method_48_code
def yX10_probeOp : MethodName := ⟨RX10, "probeOp", "(II)V"⟩
abbrev cX10_weave : ByteArray := prog_12_method_49_code
def yX10_weave : MethodName := ⟨RX10, "weave", "(I)I"⟩
abbrev cX10_unweave : ByteArray := prog_12_method_50_code
def yX10_unweave : MethodName := ⟨RX10, "unweave", "(I)I"⟩
abbrev cX10_layAll : ByteArray := prog_12_method_51_code
def yX10_layAll : MethodName := ⟨RX10, "layAll", "(I)V"⟩
abbrev cX10_group : ByteArray := prog_12_method_52_code
def yX10_group : MethodName := ⟨RX10, "group", "(II)V"⟩
abbrev cX10_itself : ByteArray := prog_12_method_53_code
def yX10_itself : MethodName := ⟨RX10, "itself", "(III)V"⟩
abbrev cX10_padOf : ByteArray := prog_12_method_54_code
def yX10_padOf : MethodName := ⟨RX10, "padOf", "(II)I"⟩
abbrev cX10_jump : ByteArray := prog_12_method_55_code
def yX10_jump : MethodName := ⟨RX10, "jump", "(III)V"⟩
abbrev cX10_pad : ByteArray := prog_12_method_56_code
def yX10_pad : MethodName := ⟨RX10, "pad", "(IIII)V"⟩
abbrev cX10_grows : ByteArray := prog_12_method_57_code
def yX10_grows : MethodName := ⟨RX10, "grows", "(I)Z"⟩
abbrev cX10_keep : ByteArray := prog_12_method_58_code
def yX10_keep : MethodName := ⟨RX10, "keep", "(I)V"⟩
abbrev cX10_runsWoven : ByteArray := prog_12_method_59_code
def yX10_runsWoven : MethodName := ⟨RX10, "runsWoven", "(I)Z"⟩
abbrev cX10_watched : ByteArray := prog_12_method_60_code
def yX10_watched : MethodName := ⟨RX10, "watched", "(I)I"⟩
abbrev cX10_tell : ByteArray := prog_12_method_61_code
def yX10_tell : MethodName := ⟨RX10, "tell", "(II)V"⟩
abbrev cX10_run : ByteArray := prog_12_method_62_code
def yX10_run : MethodName := ⟨RX10, "run", "(IIIII)I"⟩
abbrev cX10_begin : ByteArray := prog_12_method_63_code
def yX10_begin : MethodName := ⟨RX10, "begin", "()V"⟩
abbrev cX10_keepRun : ByteArray := prog_12_method_64_code
def yX10_keepRun : MethodName := ⟨RX10, "keepRun", "()V"⟩
abbrev cX10_frame : ByteArray := prog_12_method_65_code
def yX10_frame : MethodName := ⟨RX10, "frame", "(I)V"⟩
abbrev cX10_enters : ByteArray := prog_12_method_66_code
def yX10_enters : MethodName := ⟨RX10, "enters", "(I)V"⟩
abbrev cX10_tellArguments : ByteArray := prog_12_method_67_code
def yX10_tellArguments : MethodName := ⟨RX10, "tellArguments", "(II)V"⟩
abbrev cX10_top : ByteArray := prog_12_method_68_code
def yX10_top : MethodName := ⟨RX10, "top", "(I)I"⟩
abbrev cX10_setTop : ByteArray := prog_12_method_69_code
def yX10_setTop : MethodName := ⟨RX10, "setTop", "(I)V"⟩
abbrev cX10_take : ByteArray := prog_12_method_70_code
def yX10_take : MethodName := ⟨RX10, "take", "()I"⟩
abbrev cX10_give : ByteArray := prog_12_method_71_code
def yX10_give : MethodName := ⟨RX10, "give", "(I)V"⟩
abbrev cX10_octetAt : ByteArray := prog_12_method_72_code
def yX10_octetAt : MethodName := ⟨RX10, "octetAt", "(II)I"⟩
abbrev cX10_step : ByteArray := prog_12_method_73_code
def yX10_step : MethodName := ⟨RX10, "step", "()V"⟩
abbrev cX10_ahead : ByteArray := prog_12_method_74_code
def yX10_ahead : MethodName := ⟨RX10, "ahead", "(III)Z"⟩
abbrev cX10_faults : ByteArray := prog_12_method_75_code
def yX10_faults : MethodName := ⟨RX10, "faults", "(I)Z"⟩
abbrev cX10_old : ByteArray := prog_12_method_76_code
def yX10_old : MethodName := ⟨RX10, "old", "(III)V"⟩
abbrev cX10_stored : ByteArray := prog_12_method_77_code
def yX10_stored : MethodName := ⟨RX10, "stored", "(I)I"⟩
abbrev cX10_tellStore : ByteArray := prog_12_method_78_code
def yX10_tellStore : MethodName := ⟨RX10, "tellStore", "(I)V"⟩
abbrev cX10_replace : ByteArray := prog_12_method_79_code
def yX10_replace : MethodName := ⟨RX10, "replace", "(I)V"⟩
abbrev cX10_behind : ByteArray := prog_12_method_80_code
def yX10_behind : MethodName := ⟨RX10, "behind", "(IIIZ)V"⟩
abbrev cX10_said : ByteArray := prog_12_method_81_code
def yX10_said : MethodName := ⟨RX10, "said", "(III)V"⟩
abbrev cX10_oldWoven : ByteArray := prog_12_method_82_code
def yX10_oldWoven : MethodName := ⟨RX10, "oldWoven", "(III)V"⟩
abbrev cX10_faultWoven : ByteArray := prog_12_method_83_code
def yX10_faultWoven : MethodName := ⟨RX10, "faultWoven", "(III)V"⟩
abbrev cX10_isThrown : ByteArray := prog_12_method_84_code
def yX10_isThrown : MethodName := ⟨RX10, "isThrown", "()V"⟩
abbrev cX10_leaves : ByteArray := prog_12_method_85_code
def yX10_leaves : MethodName := ⟨RX10, "leaves", "()V"⟩
abbrev cX10_catches : ByteArray := prog_12_method_86_code
def yX10_catches : MethodName := ⟨RX10, "catches", "(II)I"⟩
abbrev cX10_caught : ByteArray := prog_12_method_87_code
def yX10_caught : MethodName := ⟨RX10, "caught", "(II)V"⟩
abbrev cX10_jumpTo : ByteArray := prog_12_method_88_code
def yX10_jumpTo : MethodName := ⟨RX10, "jumpTo", "(III)I"⟩
abbrev cX10_holds : ByteArray := prog_12_method_89_code
def yX10_holds : MethodName := ⟨RX10, "holds", "(III)Z"⟩
abbrev cX10_done : ByteArray := prog_12_method_90_code
def yX10_done : MethodName := ⟨RX10, "done", "(IIII)Z"⟩
abbrev cX10_jump_ : ByteArray := prog_12_method_91_code
def yX10_jump_ : MethodName := ⟨RX10, "jump", "(IIII)Z"⟩
abbrev cX10_call : ByteArray := prog_12_method_92_code
def yX10_call : MethodName := ⟨RX10, "call", "(I)V"⟩
abbrev cX10_gives : ByteArray := prog_12_method_93_code
def yX10_gives : MethodName := ⟨RX10, "gives", "()V"⟩
abbrev cX10_plain : ByteArray := prog_12_method_94_code
def yX10_plain : MethodName := ⟨RX10, "plain", "(III)V"⟩
abbrev cX10_swap : ByteArray := prog_12_method_95_code
def yX10_swap : MethodName := ⟨RX10, "swap", "()V"⟩
abbrev cX10_marks : ByteArray := prog_12_method_96_code
def yX10_marks : MethodName := ⟨RX10, "marks", "(I)V"⟩
abbrev cX10_other : ByteArray := prog_12_method_97_code
def yX10_other : MethodName := ⟨RX10, "other", "(I)V"⟩
abbrev cX10_newRow : ByteArray := prog_12_method_98_code
def yX10_newRow : MethodName := ⟨RX10, "newRow", "()V"⟩
abbrev cX10_work : ByteArray := prog_12_method_99_code
def yX10_work : MethodName := ⟨RX10, "work", "(I)V"⟩
abbrev cX10_isRun : ByteArray := prog_12_method_100_code
def yX10_isRun : MethodName := ⟨RX10, "isRun", "(I)Z"⟩
abbrev cX10_told : ByteArray := prog_12_method_101_code
def yX10_told : MethodName := ⟨RX10, "told", "(II)I"⟩
abbrev cX10_mark : ByteArray := prog_12_method_102_code
def yX10_mark : MethodName := ⟨RX10, "mark", "(II)I"⟩
abbrev cX10_field : ByteArray := prog_12_method_103_code
def yX10_field : MethodName := ⟨RX10, "field", "(II)I"⟩
abbrev cX10_kept : ByteArray := prog_12_method_104_code
def yX10_kept : MethodName := ⟨RX10, "kept", "(I)I"⟩
abbrev cX10_record : ByteArray := prog_12_method_105_code
def yX10_record : MethodName := ⟨RX10, "record", "(III)I"⟩
abbrev cX10_records : ByteArray := prog_12_method_106_code
def yX10_records : MethodName := ⟨RX10, "records", "(II)I"⟩
abbrev cX10_differ : ByteArray := prog_12_method_107_code
def yX10_differ : MethodName := ⟨RX10, "differ", "()I"⟩
abbrev cX10_count : ByteArray := prog_12_method_108_code
def yX10_count : MethodName := ⟨RX10, "count", "(I)I"⟩
def RJ9 : String := "java/lang/Math"
abbrev cJ9_max_7cf53 : ByteArray := prog_13_method_65_code
def yJ9_max_7cf53 : MethodName := ⟨RJ9, "max", "(II)I"⟩
abbrev cJ9_min_7cf53 : ByteArray := prog_13_method_69_code
def yJ9_min_7cf53 : MethodName := ⟨RJ9, "min", "(II)I"⟩
def RJ10 : String := "java/lang/System"
def RJ7 : String := "java/util/Arrays"
abbrev cJ7_rangeCheck_23922 : ByteArray := prog_15_method_30_code
def yJ7_rangeCheck_23922 : MethodName := ⟨RJ7, "rangeCheck", "(III)V"⟩
abbrev cJ7_fill_53178 : ByteArray := prog_15_method_103_code
def yJ7_fill_53178 : MethodName := ⟨RJ7, "fill", "([II)V"⟩
abbrev cJ7_fill_fda19 : ByteArray := prog_15_method_104_code
def yJ7_fill_fda19 : MethodName := ⟨RJ7, "fill", "([IIII)V"⟩
def RL : String := "ProbeLoomLaw"
abbrev cL_law : ByteArray := code
abbrev vwCl : List vw_C := [(RX0, TX0, 6), (RX1, TX1, 6), (RX2, TX2, 17), (RX3, TX3, 11), (RX4, TX4, 6), (RX5, TX5, 2), (RX6, TX6, 13), (RX7, TX7, 17), (RX8, TX8, 11), (RX9, TX9, 12), (RX10, TX10, 87)]
def zRfL : List (List Bool) := [[true, true, false, true, false, false], [true, true, false, false, false, false], [true, true, true, true, true, true, true, false, false, false, false, false, false, false, false, false, false], [false, true, true, true, true, true, true, false, false, false, false], [true, true, true, true, true, false], [true, false], [true, true, true, true, false, false, false, false, false, false, false, false, false], [true, true, true, true, true, true, true, true, true, true, true, false, false, false, false, false, false], [true, true, true, true, true, false, false, false, false, false, false], [true, true, true, true, true, true, true, true, false, false, false, false], [true, false, false, false, true, true, true, true, true, true, true, true, true, true, true, true, true, false, true, true, true, true, true, true, true, true, true, true, true, true, true, true, true, true, true, true, true, false, false, false, true, true, false, true, true, true, true, false, false, true, false, false, false, false, false, false, true, true, true, true, true, true, true, false, true, false, false, false, false, true, true, true, true, false, true, true, true, true, true, true, true, true, true, true, true, true, true]]
def zRf (t j : Nat) : Bool := (zRfL.getD t []).getD j false
def zNest : List (String × Nat × MethodName × String) := [("ProbeLoom", 15, ⟨"ProbeLoom$Reader", "<init>", "()V"⟩, "ProbeLoom"), ("ProbeLoom", 22, ⟨"ProbeLoom$Judge", "<init>", "()V"⟩, "ProbeLoom"), ("ProbeLoom", 29, ⟨"ProbeLoom$Weaver", "<init>", "()V"⟩, "ProbeLoom"), ("ProbeLoom$Method", 29, ⟨"ProbeLoom$Woven", "<init>", "()V"⟩, "ProbeLoom"), ("ProbeLoom", 54, ⟨"ProbeLoom$Tale", "<init>", "()V"⟩, "ProbeLoom"), ("ProbeLoom", 57, ⟨"ProbeLoom$Probes", "<init>", "()V"⟩, "ProbeLoom"), ("ProbeLoom$Reader", 35, ⟨"ProbeLoom", "byteAt", "([II)I"⟩, "ProbeLoom"), ("ProbeLoom$Reader", 69, ⟨"ProbeLoom", "isOp", "(I)Z"⟩, "ProbeLoom"), ("ProbeLoom$Reader", 84, ⟨"ProbeLoom", "tableSize", "(I)I"⟩, "ProbeLoom"), ("ProbeLoom$Reader", 76, ⟨"ProbeLoom", "fixedSize", "(I)I"⟩, "ProbeLoom"), ("ProbeLoom$Reader", 63, ⟨"ProbeLoom", "sizeAt", "([II)I"⟩, "ProbeLoom"), ("ProbeLoom$Method", 57, ⟨"ProbeLoom", "targetCount", "([II)I"⟩, "ProbeLoom"), ("ProbeLoom$Method", 61, ⟨"ProbeLoom", "targetAt", "([III)I"⟩, "ProbeLoom"), ("ProbeLoom$Method", 65, ⟨"ProbeLoom", "handlerPart", "([III)I"⟩, "ProbeLoom"), ("ProbeLoom$Judge", 65, ⟨"ProbeLoom", "handlerPart", "([III)I"⟩, "ProbeLoom"), ("ProbeLoom$Judge", 73, ⟨"ProbeLoom", "shortOf", "(I)I"⟩, "ProbeLoom"), ("ProbeLoom$Judge", 77, ⟨"ProbeLoom", "byteAt", "([II)I"⟩, "ProbeLoom"), ("ProbeLoom$Judge", 85, ⟨"ProbeLoom", "goesOn", "(I)Z"⟩, "ProbeLoom"), ("ProbeLoom$Judge", 92, ⟨"ProbeLoom", "targetCount", "([II)I"⟩, "ProbeLoom"), ("ProbeLoom$Judge", 95, ⟨"ProbeLoom", "targetAt", "([III)I"⟩, "ProbeLoom"), ("ProbeLoom$Method", 68, ⟨"ProbeLoom", "isChoice", "(I)Z"⟩, "ProbeLoom"), ("ProbeLoom$Method", 74, ⟨"ProbeLoom", "isReplaceable", "(I)Z"⟩, "ProbeLoom"), ("ProbeLoom$Weaver", 135, ⟨"ProbeLoom", "handlerPart", "([III)I"⟩, "ProbeLoom"), ("ProbeLoom$Weaver", 146, ⟨"ProbeLoom", "isShortJump", "(I)Z"⟩, "ProbeLoom"), ("ProbeLoom$Weaver", 139, ⟨"ProbeLoom", "targetAt", "([III)I"⟩, "ProbeLoom"), ("ProbeLoom$Weaver", 225, ⟨"ProbeLoom", "isLongJump", "(I)Z"⟩, "ProbeLoom"), ("ProbeLoom$Weaver", 232, ⟨"ProbeLoom", "byteAt", "([II)I"⟩, "ProbeLoom"), ("ProbeLoom$Weaver", 236, ⟨"ProbeLoom", "targetCount", "([II)I"⟩, "ProbeLoom"), ("ProbeLoom$Machine", 153, ⟨"ProbeLoom", "byteAt", "([II)I"⟩, "ProbeLoom"), ("ProbeLoom$Frame", 54, ⟨"ProbeLoom", "byteAt", "([II)I"⟩, "ProbeLoom"), ("ProbeLoom$Machine", 168, ⟨"ProbeLoom", "targetAt", "([III)I"⟩, "ProbeLoom"), ("ProbeLoom$Machine", 286, ⟨"ProbeLoom", "fixedSize", "(I)I"⟩, "ProbeLoom"), ("ProbeLoom$Machine", 185, ⟨"ProbeLoom", "shortOf", "(I)I"⟩, "ProbeLoom"), ("ProbeLoom$Machine", 202, ⟨"ProbeLoom", "sizeAt", "([II)I"⟩, "ProbeLoom"), ("ProbeLoom$Machine", 230, ⟨"ProbeLoom", "signedByteAt", "([II)I"⟩, "ProbeLoom"), ("ProbeLoom$Machine", 237, ⟨"ProbeLoom", "wordAt", "([II)I"⟩, "ProbeLoom"), ("ProbeLoom$Frame", 70, ⟨"ProbeLoom", "handlerPart", "([III)I"⟩, "ProbeLoom")]
def zStat : List (String × String × List Int32) := [("ProbeLoom", "SIZES", [1, 2, 5, 2, 2, 3, 1, 1, 1, 1, 1, 1, 1, 1, 1, 1, 1, 1, 1, 1, 2, 2, 2, 2, 2, 2, 2, 2, 2, 2, 2, 2, 2, 0, 2, 2, 1, 1, 1, 1, 2, 1, 1, 1]), ("ProbeLoom$Judge", "INTS_TAKEN", [0, 0, 0, 0, 0, 0, 0, 0, 0, 2, 2, 2, 2, 2, 2, 2, 2, 2, 2, 1, 0, 1, 1, 1, 1, 1, 1, 2, 2, 2, 2, 2, 2, 1, 0, 1, 1, 0, 1, 2, 0, 1, 1, 1]), ("ProbeLoom$Judge", "INTS_PUT", [0, 1, 1, 0, 0, 0, 0, 0, 0, 1, 1, 1, 1, 1, 1, 1, 1, 1, 1, 1, 0, 0, 0, 0, 0, 0, 0, 0, 0, 0, 0, 0, 0, 0, 1, 0, 0, 1, 1, 0, 1, 0, 0, 0])]
end
section
/-! THE LAYER: one base b; every cell of ours has an index k and lies at b + k; a world is a shape (kind, size) of each index, its ints I and its references P.
Kinds: 0 .. 10 objects of vwCl's classes, 11 int[], 12 boolean[], 13 Frame[], 14 Method[], 15 Tale[]. -/
def zv (b : Nat) (tA : Nat → Nat) (v : Value) : Value := match v with
  | .ref k => .ref (b + k)
  | .retAddr k => .ref (tA k)
  | w => w
def zr (b : Nat) (r : Option Nat) : Option Nat := r.map (fun k => b + k)
theorem zv_rf (b : Nat) (tA : Nat → Nat) (r : Option Nat) : zv b tA (va_rf r) = va_rf (zr b r) := by cases r <;> rfl
def zlive (v : Value) : Bool := match v with
  | .int _ => true
  | .null => true
  | .ref _ => true
  | .retAddr _ => true
  | _ => false
theorem zv_cat {b : Nat} {tA : Nat → Nat} {v : Value} (h : zlive v = true) : (zv b tA v).category = 1 := by
  cases v <;> first | rfl | cases h
def zl (b : Nat) (tA : Nat → Nat) (L : List Value) : List (Nat × Value) := (List.range L.length).filterMap (fun i => match L[i]? with
  | some v => if zlive v = true then some (i, zv b tA v) else none
  | none => none)
theorem zl_mem {b : Nat} {tA : Nat → Nat} {L : List Value} {q : Nat × Value} : q ∈ zl b tA L ↔ ∃ v, L[q.1]? = some v ∧ zlive v = true ∧ q.2 = zv b tA v := by
  unfold zl
  rw [List.mem_filterMap]
  constructor
  · rintro ⟨i, hi, h⟩
    split at h
    · rename_i v hv
      split at h
      · rename_i hl
        cases h
        exact ⟨v, hv, hl, rfl⟩
      · cases h
    · cases h
  · rintro ⟨v, hv, hl, he⟩
    refine ⟨q.1, List.mem_range.mpr (List.getElem?_eq_some_iff.mp hv).1, ?_⟩
    rw [hv]
    simp only [hl, if_true]
    exact congrArg some (Prod.ext rfl he.symm)
theorem zl_get {b : Nat} {tA : Nat → Nat} {L : List Value} {ls : Array Slot} {nL : Nat} (h : lv_has ls nL (zl b tA L)) {i : Nat} {v : Value} (hi : L[i]? = some v) (hv : zlive v = true) : ls[i]? = some (.val (zv b tA v)) := h.2.2 (i, zv b tA v) (zl_mem.mpr ⟨v, hi, hv, rfl⟩)
theorem zl_set {b : Nat} {tA : Nat → Nat} {L : List Value} {ls : Array Slot} {nL i : Nat} {w : Value} (h : lv_has ls nL ((i, zv b tA w) :: (zl b tA L).filter (fun q => !(q.1 == i) && !(q.1 + 1 == i && q.2.category == 2)))) : lv_has ls nL (zl b tA (L.set i w)) := by
  refine ⟨h.1, h.2.1, fun q hq => ?_⟩
  obtain ⟨v, h1, h2, h3⟩ := zl_mem.mp hq
  by_cases hqi : q.1 = i
  · have h4 : v = w := by
      rw [hqi, List.getElem?_set_self (by have := (List.getElem?_eq_some_iff.mp h1).1; rw [List.length_set] at this; omega)] at h1
      exact (Option.some.inj h1).symm
    refine h.2.2 q ?_
    rw [List.mem_cons]
    left
    exact Prod.ext hqi (by rw [h3, h4])
  · rw [List.getElem?_set_ne (fun e => hqi e.symm)] at h1
    refine h.2.2 q (List.mem_cons_of_mem _ (List.mem_filter.mpr ⟨zl_mem.mpr ⟨v, h1, h2, h3⟩, ?_⟩))
    rw [h3, zv_cat h2]
    simp [hqi]
abbrev zSh : Type := List (Nat × Nat)
abbrev zI : Type := Nat → Nat → Int32
abbrev zP : Type := Nat → Nat → Option Nat
def zF (b t : Nat) (i : Nat → Int32) (r : Nat → Option Nat) (j : Nat) : Value := if zRf t j = true then va_rf (zr b (r j)) else .int (i j)
def zE (dA : Nat → ClassId) (b t n : Nat) (i : Nat → Int32) (r : Nat → Option Nat) : va_E := if t < 11 then .inr (t, (List.range n).map (zF b t i r)) else if t < 13 then .inl (dA t, n, .inl i) else .inl (dA t, n, .inr (.inr (.inr (.inr (fun j => zr b (r j))))))
def zW (dA : Nat → ClassId) (b : Nat) (sh : zSh) (I : zI) (P : zP) : va_W := (List.range sh.length).map (fun k => (b + k, zE dA b (sh.getD k (0, 0)).1 (sh.getD k (0, 0)).2 (I k) (P k)))
theorem zW_at {dA : Nat → ClassId} {b : Nat} {sh : zSh} {I : zI} {P : zP} {k t n : Nat} (h : sh[k]? = some (t, n)) : (zW dA b sh I P)[k]? = some (b + k, zE dA b t n (I k) (P k)) := by
  have hk := (List.getElem?_eq_some_iff.mp h).1
  unfold zW
  rw [List.getElem?_map, List.getElem?_range hk]
  simp [List.getD_eq_getElem?_getD, h]
theorem zW_len {dA : Nat → ClassId} {b : Nat} {sh : zSh} {I : zI} {P : zP} : (zW dA b sh I P).length = sh.length := by simp [zW]
theorem zW_inv {dA : Nat → ClassId} {b : Nat} {sh : zSh} {I : zI} {P : zP} {k : Nat} {q : Nat × va_E} (h : (zW dA b sh I P)[k]? = some q) : k < sh.length ∧ q.1 = b + k := by
  have hk : k < sh.length := by have := (List.getElem?_eq_some_iff.mp h).1; rwa [zW_len] at this
  refine ⟨hk, ?_⟩
  rw [zW_at (t := (sh.getD k (0, 0)).1) (n := (sh.getD k (0, 0)).2) (by rw [List.getElem?_eq_getElem hk]; simp [List.getD_eq_getElem?_getD, hk])] at h
  rw [← Option.some.inj h]
theorem zW_D {dA : Nat → ClassId} {b : Nat} {sh : zSh} {I : zI} {P : zP} : va_D (fun q => b ≤ q) (zW dA b sh I P) := by
  refine ⟨fun i j p q h1 h2 h3 => ?_, fun k q h => ?_⟩
  · rw [(zW_inv h1).2, (zW_inv h2).2] at h3
    omega
  · show b ≤ q.1
    rw [(zW_inv h).2]
    omega
def zu {α : Type} (I : Nat → Nat → α) (k j : Nat) (x : α) : Nat → Nat → α := fun a c => if a = k ∧ c = j then x else I a c
theorem zu_same {α : Type} {I : Nat → Nat → α} {k j : Nat} {x : α} : zu I k j x k j = x := by simp [zu]
theorem zu_ne {α : Type} {I : Nat → Nat → α} {k j a c : Nat} {x : α} (h : ¬ (a = k ∧ c = j)) : zu I k j x a c = I a c := by simp [zu, h]
theorem zW_set {dA : Nat → ClassId} {b : Nat} {sh : zSh} {I I' : zI} {P P' : zP} {k t n : Nat} (h : sh[k]? = some (t, n)) (hI : ∀ a, a ≠ k → I' a = I a) (hP : ∀ a, a ≠ k → P' a = P a) : (zW dA b sh I P).set k (b + k, zE dA b t n (I' k) (P' k)) = zW dA b sh I' P' := by
  apply List.ext_getElem?
  intro a
  by_cases ha : a < sh.length
  · have e : sh[a]? = some ((sh.getD a (0, 0)).1, (sh.getD a (0, 0)).2) := by rw [List.getElem?_eq_getElem ha]; simp [List.getD_eq_getElem?_getD, ha]
    by_cases hk : a = k
    · subst hk
      rw [List.getElem?_set_self (by rw [zW_len]; exact ha), zW_at h]
    · rw [List.getElem?_set_ne (fun q => hk q.symm), zW_at e, zW_at e, hI a hk, hP a hk]
  · rw [List.getElem?_eq_none (by rw [List.length_set, zW_len]; omega), List.getElem?_eq_none (by rw [zW_len]; omega)]
def zTys (dA : Nat → ClassId) : List (ClassId × FieldType) := [(dA 11, .int), (dA 12, .boolean), (dA 13, .object "ProbeLoom$Frame"), (dA 14, .object "ProbeLoom$Method"), (dA 15, .object "ProbeLoom$Tale")]
/-- what stays true of the tables and of the constant rows -/
def zK (D : va_G) (dA : Nat → ClassId) (b : Nat) (tA : Nat → Nat) (U : State) : Prop := va_K D vwCl (zTys dA) U ∧ (∀ q ∈ zNest, va_Nw (.methodLinkNest q.1 q.2.1 q.2.2.1 q.2.2.2) U) ∧ (∀ C ∈ ["ProbeLoom$Frame", "ProbeLoom$Method", "ProbeLoom$Tale"], va_AO C U) ∧ ∀ (i : Nat) (q : String × String × List Int32), zStat[i]? = some q → va_Z q.1 q.2.1 "[I" (.ref (tA i)) (fun a => b ≤ a) U U.heap ∧ va_T .int (tA i) q.2.2.length (fun j => .int (q.2.2.getD j 0)) (fun a => b ≤ a) U U.heap
theorem zK_move {D : va_G} {dA : Nat → ClassId} {b : Nat} {tA : Nat → Nat} {s U : State} (h : zK D dA b tA s) (hW : s.WarmedH U.vm) (hq : ∀ a : Nat, a < s.heap.size → ¬ b ≤ a → U.heap[a]? = s.heap[a]?) : zK D dA b tA U :=
  ⟨va_K.moved hW.alike h.1, fun q hm => va_Nw.warmM hW (h.2.1 q hm), fun C hC => va_AO.moved hW.alike (h.2.2.1 C hC), fun i q hi => ⟨((h.2.2.2 i q hi).1.moved hW.alike).kept hq, ((h.2.2.2 i q hi).2.moved hW.alike).kept hq⟩⟩
theorem zK_calling {D : va_G} {dA : Nat → ClassId} {b : Nat} {tA : Nat → Nat} {U : State} {g : JFrame} {mk : MethodId} {a : Array Value} (h : zK D dA b tA U) : zK D dA b tA (U.calling g mk a) :=
  ⟨va_K.moved (u := U) (U := U.calling g mk a) (Vm.Alike.refl U.vm) h.1, fun q hm => va_Nw.same rfl (u := U) (U := U.calling g mk a) rfl (h.2.1 q hm), fun C hC => va_AO.moved (u := U) (U := U.calling g mk a) (Vm.Alike.refl U.vm) (h.2.2.1 C hC), fun i q hi => ⟨(h.2.2.2 i q hi).1.moved (u := U) (U := U.calling g mk a) (Vm.Alike.refl U.vm), (h.2.2.2 i q hi).2.moved (u := U) (U := U.calling g mk a) (Vm.Alike.refl U.vm)⟩⟩
def wsG : List Cond := lw_tbl.filter goodWord
theorem wsG_of {i : Nat} {w : Cond} (h : lw_tbl[i]? = some w) (g : goodWord w = true) : w ∈ wsG := List.mem_filter.mpr ⟨List.mem_of_getElem? h, g⟩
theorem wsG_t {i : Nat} {w : Cond} (h : tables_1[i]? = some w) (g : goodWord w = true) : w ∈ wsG := List.mem_filter.mpr ⟨List.mem_append_right _ (List.mem_of_getElem? h), g⟩
theorem wsG_p {i : Nat} {q : MethodName × Nat} (h : lw_privs[i]? = some q) : Cond.selects q.1.cls q.1 q.1 ∈ wsG := List.mem_filter.mpr ⟨List.mem_append_left _ (List.mem_map.mpr ⟨q, List.mem_of_getElem? h, rfl⟩), rfl⟩
theorem wsG_good {w : Cond} (h : w ∈ wsG) : (w.onTables && w.keeps) = true ∨ ∃ ty, w = .arrayClass ty := good_of_word (List.mem_filter.mp h).2
theorem wsG_in {y : MethodName} {cc : ByteArray} {nL : Nat} {ret : Option FieldType} (h : Cond.code y cc nL ret ∈ wsG) : GoodIn wsG (Cond.code y cc nL ret :: wsG) := by
  intro w hw
  rcases List.mem_cons.mp hw with h1 | h1
  · subst h1
    exact ⟨h, wsG_good h⟩
  · exact ⟨h1, wsG_good h1⟩
abbrev zX : Type := Program × Launch × Env × Room × State × MethodId × Array Value × List Frame × Method × Code × (State → Prop) × va_G × (Nat → ClassId) × Nat × (Nat → Nat) × Nat
/-- at pc, with these locals, this stack, this world: the machine comes to a state with Q -/
def Gx (κ : zX) (pc : Nat) (L st : List Value) (sh : zSh) (I : zI) (P : zP) (ce sl : Nat) : Prop := match κ with
  | (p, l, e, R, s, m, args, below, meth, c, Q, D, dA, b, tA, n) => ∀ (H : Heap) (locs : List Loc) (ls : Array Slot), va_P D vwCl (zW dA b sh I P) H → H.size = b + sh.length → va_S (fun q => b ≤ q) s.heap H locs → lv_has ls n (zl b tA L) → W p l e R s m args below meth c H locs ce sl Q (F0 m pc ls (st.map (zv b tA)))
/-- where a walk stands: the method, its code, its room -/
def Cx (y : MethodName) (cc : ByteArray) (nL : Nat) (ret : Option FieldType) (fr lo : Nat) (κ : zX) : Prop := match κ with
  | (p, l, e, R, s, m, args, below, meth, c, Q, D, dA, b, tA, n) => p.tables.exec = Jvm.exec ∧ c.code = cc ∧ meth.sig.returnType = ret ∧ c.maxLocals = nL ∧ n = nL ∧ s.vm.findClass y.cls = some m.cls ∧ (∀ w ∈ wsG, w.before args s = true) ∧ zK D dA b tA s ∧ meth.name = y.name ∧ meth.locks = false ∧ fr ≤ R.frames ∧ lo ≤ R.locals ∧ b ≤ s.heap.size
def zQc (D : va_G) (dA : Nat → ClassId) (b : Nat) (tA : Nat → Nat) (Qf : Option Value → zSh → zI → zP → Prop) : Array Value → State → Outcome → State → Prop := fun _ st oc t =>
  (∃ (r : Option Value) (sh : zSh) (I : zI) (P : zP), oc = .returned (r.map (zv b tA)) ∧ Qf r sh I P ∧ va_P D vwCl (zW dA b sh I P) t.heap ∧ t.heap.size = b + sh.length) ∧ va_F (fun q => b ≤ q) st t
def zPc (D : va_G) (dA : Nat → ClassId) (b : Nat) (tA : Nat → Nat) (As : List Value) (sh : zSh) (I : zI) (P : zP) : Array Value → State → Prop := fun v U =>
  v = (As.map (zv b tA)).toArray ∧ zK D dA b tA U ∧ va_P D vwCl (zW dA b sh I P) U.heap ∧ U.heap.size = b + sh.length
/-- the method y from these arguments and this world: it returns with Qf -/
def Ev (y : MethodName) (cc : ByteArray) (nL : Nat) (ret : Option FieldType) (fr lo mc ms : Nat) (As : List Value) (sh : zSh) (I : zI) (P : zP) (Qf : Option Value → zSh → zI → zP → Prop) : Prop :=
  ∀ (l : Launch) (D : va_G) (dA : Nat → ClassId) (b : Nat) (tA : Nat → Nat), Met l y (Cond.code y cc nL ret :: wsG) ({ frames := fr, cells := mc, slots := ms, locals := lo }) (zPc D dA b tA As sh I P) (zQc D dA b tA Qf) mc ms (fun q => b ≤ q)
theorem Ev.mono {y : MethodName} {cc : ByteArray} {nL : Nat} {ret : Option FieldType} {fr lo mc ms : Nat} {As : List Value} {sh : zSh} {I : zI} {P : zP} {Q Q' : Option Value → zSh → zI → zP → Prop} (h : Ev y cc nL ret fr lo mc ms As sh I P Q) (hQ : ∀ r sh I P, Q r sh I P → Q' r sh I P) : Ev y cc nL ret fr lo mc ms As sh I P Q' := by
  intro l D dA b tA
  refine MetFree.mono (h l D dA b tA) (fun _ _ q => q) (fun _ _ _ _ _ q => q) (fun a st o t _ q => ?_)
  obtain ⟨⟨⟨r, sh, I, P, h1, h2, h3⟩, h4⟩, h5⟩ := q
  exact ⟨⟨⟨r, sh, I, P, h1, hQ _ _ _ _ h2, h3⟩, h4⟩, h5⟩
/-- what a walk of y ends with -/
def zEnd (Qf : Option Value → zSh → zI → zP → Prop) (mc ms : Nat) (κ : zX) : Prop := match κ with
  | (p, l, e, R, s, m, args, below, meth, c, Q, D, dA, b, tA, n) => Q = MQ below (zQc D dA b tA Qf) args s mc ms (fun q => b ≤ q) ∧ R.cells = mc ∧ R.slots = ms
theorem zlsl (b : Nat) (tA : Nat → Nat) : ∀ (As : List Value), (∀ v ∈ As, zlive v = true) → lg_sl (As.map (zv b tA)) = As.map (fun v => Slot.val (zv b tA v))
  | [], _ => rfl
  | v :: vs, h => by
    have h1 := zlsl b tA vs (fun w hw => h w (List.mem_cons_of_mem _ hw))
    have h2 : (zv b tA v).category = 1 := zv_cat (h v List.mem_cons_self)
    show (if (zv b tA v).category = 2 then [Slot.val (zv b tA v), Slot.second] else [Slot.val (zv b tA v)]) ++ lg_sl (vs.map (zv b tA)) = _
    rw [if_neg (by rw [h2]; decide), h1]
    rfl
theorem zargs (b : Nat) (tA : Nat → Nat) : ∀ (As : List Value) (i : Nat), (∀ v ∈ As, zlive v = true) → ∀ (j : Nat) (v : Value), As[j]? = some v → (i + j, zv b tA v) ∈ lv_args i (As.map (zv b tA))
  | [], i, _, j, v, hj => by simp at hj
  | w :: ws, i, h, 0, v, hj => by
    simp at hj
    subst hj
    simp [lv_args]
  | w :: ws, i, h, j + 1, v, hj => by
    have h2 : (zv b tA w).category = 1 := zv_cat (h w List.mem_cons_self)
    have h1 := zargs b tA ws (i + 1) (fun w hw => h w (List.mem_cons_of_mem _ hw)) j v (by simpa using hj)
    simp only [List.map_cons, lv_args]
    rw [if_neg (by rw [h2]; decide)]
    rw [show i + (j + 1) = i + 1 + j by omega]
    exact List.mem_cons_of_mem _ h1
theorem Ev.intro {y : MethodName} {cc : ByteArray} {nL : Nat} {ret : Option FieldType} {fr lo mc ms : Nat} {As : List Value} {sh : zSh} {I : zI} {P : zP} {Qf : Option Value → zSh → zI → zP → Prop} (hy : plainName y.cls = true) (hA : ∀ v ∈ As, zlive v = true) (hn : As.length ≤ nL)
    (h : ∀ κ : zX, Cx y cc nL ret fr lo κ → zEnd Qf mc ms κ → Gx κ 0 (As ++ List.replicate (nL - As.length) (.float 0)) [] sh I P 0 0) : Ev y cc nL ret fr lo mc ms As sh I P Qf := by
  intro l D dA b tA
  refine Met.ofW (cc := cc) (maxL := nL) (ret := ret) hy rfl ?_
  intro p e s m args below meth c s₁ B hml hv
  obtain ⟨rfl, hK, hP, hz⟩ := hv
  have hts := atoms_spec (ws := Cond.code y cc nL ret :: wsG) B.pre
  have hown : s.vm.findClass y.cls = some m.cls := findClass_of_methodNamed B.named
  have hin : meth.name = y.name := (name_of_methodNamed B.named B.method).1
  have hbs : b ≤ s.heap.size := by omega
  have hl := lv_entry (As.map (zv b tA)) (n := nL) (by rw [zlsl b tA As hA, List.length_map]; exact hn)
  rw [lg_entry_eq]
  refine h (p, l, e, _, s, m, _, below, meth, c, _, D, dA, b, tA, nL) ⟨B.exec, B.bytes, B.returns, hml, rfl, hown, fun w hw => hts w (List.mem_cons_of_mem _ hw), hK, hin, B.notSynchronized, Nat.le_refl _, Nat.le_refl _, hbs⟩ ⟨rfl, rfl, rfl⟩ s.heap [] _ hP hz va_S.rf ?_
  refine ⟨hl.1, hl.2.1, fun q hq => ?_⟩
  obtain ⟨v, h1, h2, h3⟩ := zl_mem.mp hq
  by_cases hlt : q.1 < As.length
  · rw [List.getElem?_append_left hlt] at h1
    have h4 := zargs b tA As 0 hA q.1 v h1
    rw [Nat.zero_add] at h4
    have h5 : q = (q.1, zv b tA v) := Prod.ext rfl h3
    rw [h5]
    exact hl.2.2 _ h4
  · rw [List.getElem?_append_right (Nat.not_lt.mp hlt)] at h1
    have h6 := List.eq_of_mem_replicate (List.mem_of_getElem? h1)
    rw [h6] at h2
    cases h2

theorem g_iadd {κ : zX} {y : MethodName} {cc : ByteArray} {nL : Nat} {ret : Option FieldType} {fr lo : Nat} (cx : Cx y cc nL ret fr lo κ) {pc : Nat} {L st : List Value} {sh : zSh} {I : zI} {P : zP} {ce sl : Nat} {x z : Int32} (hd : decode cc pc = .ok (.iadd, 1))  (kk : Gx κ (pc + 1) L (.int (x + z) :: st) sh I P ce sl) : Gx κ pc L (.int z :: .int x :: st) sh I P ce sl := by
  obtain ⟨p, l, e, R, s, m, args, below, meth, c, Q, D, dA, b, tA, nq⟩ := κ
  obtain ⟨hx, hb, hr, hml, rfl, hown, hts, hK, hnm, hlk, hfr, hlo, hbs⟩ := cx
  intro H locs ls hP hz hS hl
  exact lv_iadd hx hb hd (kk H locs ls hP hz hS hl)
theorem g_isub {κ : zX} {y : MethodName} {cc : ByteArray} {nL : Nat} {ret : Option FieldType} {fr lo : Nat} (cx : Cx y cc nL ret fr lo κ) {pc : Nat} {L st : List Value} {sh : zSh} {I : zI} {P : zP} {ce sl : Nat} {x z : Int32} (hd : decode cc pc = .ok (.isub, 1))  (kk : Gx κ (pc + 1) L (.int (x - z) :: st) sh I P ce sl) : Gx κ pc L (.int z :: .int x :: st) sh I P ce sl := by
  obtain ⟨p, l, e, R, s, m, args, below, meth, c, Q, D, dA, b, tA, nq⟩ := κ
  obtain ⟨hx, hb, hr, hml, rfl, hown, hts, hK, hnm, hlk, hfr, hlo, hbs⟩ := cx
  intro H locs ls hP hz hS hl
  exact lv_isub hx hb hd (kk H locs ls hP hz hS hl)
theorem g_imul {κ : zX} {y : MethodName} {cc : ByteArray} {nL : Nat} {ret : Option FieldType} {fr lo : Nat} (cx : Cx y cc nL ret fr lo κ) {pc : Nat} {L st : List Value} {sh : zSh} {I : zI} {P : zP} {ce sl : Nat} {x z : Int32} (hd : decode cc pc = .ok (.imul, 1))  (kk : Gx κ (pc + 1) L (.int (x * z) :: st) sh I P ce sl) : Gx κ pc L (.int z :: .int x :: st) sh I P ce sl := by
  obtain ⟨p, l, e, R, s, m, args, below, meth, c, Q, D, dA, b, tA, nq⟩ := κ
  obtain ⟨hx, hb, hr, hml, rfl, hown, hts, hK, hnm, hlk, hfr, hlo, hbs⟩ := cx
  intro H locs ls hP hz hS hl
  exact lv_imul hx hb hd (kk H locs ls hP hz hS hl)
theorem g_iand {κ : zX} {y : MethodName} {cc : ByteArray} {nL : Nat} {ret : Option FieldType} {fr lo : Nat} (cx : Cx y cc nL ret fr lo κ) {pc : Nat} {L st : List Value} {sh : zSh} {I : zI} {P : zP} {ce sl : Nat} {x z : Int32} (hd : decode cc pc = .ok (.iand, 1))  (kk : Gx κ (pc + 1) L (.int (x &&& z) :: st) sh I P ce sl) : Gx κ pc L (.int z :: .int x :: st) sh I P ce sl := by
  obtain ⟨p, l, e, R, s, m, args, below, meth, c, Q, D, dA, b, tA, nq⟩ := κ
  obtain ⟨hx, hb, hr, hml, rfl, hown, hts, hK, hnm, hlk, hfr, hlo, hbs⟩ := cx
  intro H locs ls hP hz hS hl
  exact lv_iand hx hb hd (kk H locs ls hP hz hS hl)
theorem g_ior {κ : zX} {y : MethodName} {cc : ByteArray} {nL : Nat} {ret : Option FieldType} {fr lo : Nat} (cx : Cx y cc nL ret fr lo κ) {pc : Nat} {L st : List Value} {sh : zSh} {I : zI} {P : zP} {ce sl : Nat} {x z : Int32} (hd : decode cc pc = .ok (.ior, 1))  (kk : Gx κ (pc + 1) L (.int (x ||| z) :: st) sh I P ce sl) : Gx κ pc L (.int z :: .int x :: st) sh I P ce sl := by
  obtain ⟨p, l, e, R, s, m, args, below, meth, c, Q, D, dA, b, tA, nq⟩ := κ
  obtain ⟨hx, hb, hr, hml, rfl, hown, hts, hK, hnm, hlk, hfr, hlo, hbs⟩ := cx
  intro H locs ls hP hz hS hl
  exact lv_ior hx hb hd (kk H locs ls hP hz hS hl)
theorem g_ixor {κ : zX} {y : MethodName} {cc : ByteArray} {nL : Nat} {ret : Option FieldType} {fr lo : Nat} (cx : Cx y cc nL ret fr lo κ) {pc : Nat} {L st : List Value} {sh : zSh} {I : zI} {P : zP} {ce sl : Nat} {x z : Int32} (hd : decode cc pc = .ok (.ixor, 1))  (kk : Gx κ (pc + 1) L (.int (x ^^^ z) :: st) sh I P ce sl) : Gx κ pc L (.int z :: .int x :: st) sh I P ce sl := by
  obtain ⟨p, l, e, R, s, m, args, below, meth, c, Q, D, dA, b, tA, nq⟩ := κ
  obtain ⟨hx, hb, hr, hml, rfl, hown, hts, hK, hnm, hlk, hfr, hlo, hbs⟩ := cx
  intro H locs ls hP hz hS hl
  exact lv_ixor hx hb hd (kk H locs ls hP hz hS hl)
theorem g_ishl {κ : zX} {y : MethodName} {cc : ByteArray} {nL : Nat} {ret : Option FieldType} {fr lo : Nat} (cx : Cx y cc nL ret fr lo κ) {pc : Nat} {L st : List Value} {sh : zSh} {I : zI} {P : zP} {ce sl : Nat} {x z : Int32} (hd : decode cc pc = .ok (.ishl, 1))  (kk : Gx κ (pc + 1) L (.int (x <<< (z &&& 31)) :: st) sh I P ce sl) : Gx κ pc L (.int z :: .int x :: st) sh I P ce sl := by
  obtain ⟨p, l, e, R, s, m, args, below, meth, c, Q, D, dA, b, tA, nq⟩ := κ
  obtain ⟨hx, hb, hr, hml, rfl, hown, hts, hK, hnm, hlk, hfr, hlo, hbs⟩ := cx
  intro H locs ls hP hz hS hl
  exact lv_ishl hx hb hd (kk H locs ls hP hz hS hl)
theorem g_ishr {κ : zX} {y : MethodName} {cc : ByteArray} {nL : Nat} {ret : Option FieldType} {fr lo : Nat} (cx : Cx y cc nL ret fr lo κ) {pc : Nat} {L st : List Value} {sh : zSh} {I : zI} {P : zP} {ce sl : Nat} {x z : Int32} (hd : decode cc pc = .ok (.ishr, 1))  (kk : Gx κ (pc + 1) L (.int (x >>> (z &&& 31)) :: st) sh I P ce sl) : Gx κ pc L (.int z :: .int x :: st) sh I P ce sl := by
  obtain ⟨p, l, e, R, s, m, args, below, meth, c, Q, D, dA, b, tA, nq⟩ := κ
  obtain ⟨hx, hb, hr, hml, rfl, hown, hts, hK, hnm, hlk, hfr, hlo, hbs⟩ := cx
  intro H locs ls hP hz hS hl
  exact lv_ishr hx hb hd (kk H locs ls hP hz hS hl)
theorem g_iushr {κ : zX} {y : MethodName} {cc : ByteArray} {nL : Nat} {ret : Option FieldType} {fr lo : Nat} (cx : Cx y cc nL ret fr lo κ) {pc : Nat} {L st : List Value} {sh : zSh} {I : zI} {P : zP} {ce sl : Nat} {x z : Int32} (hd : decode cc pc = .ok (.iushr, 1))  (kk : Gx κ (pc + 1) L (.int ((x.toUInt32 >>> (z.toUInt32 &&& Int32.toUInt32 31)).toInt32) :: st) sh I P ce sl) : Gx κ pc L (.int z :: .int x :: st) sh I P ce sl := by
  obtain ⟨p, l, e, R, s, m, args, below, meth, c, Q, D, dA, b, tA, nq⟩ := κ
  obtain ⟨hx, hb, hr, hml, rfl, hown, hts, hK, hnm, hlk, hfr, hlo, hbs⟩ := cx
  intro H locs ls hP hz hS hl
  exact lv_iushr hx hb hd rfl (kk H locs ls hP hz hS hl)
theorem g_idiv {κ : zX} {y : MethodName} {cc : ByteArray} {nL : Nat} {ret : Option FieldType} {fr lo : Nat} (cx : Cx y cc nL ret fr lo κ) {pc : Nat} {L st : List Value} {sh : zSh} {I : zI} {P : zP} {ce sl : Nat} {x z : Int32} (hd : decode cc pc = .ok (.idiv, 1)) (hne : ¬ z = 0) (kk : Gx κ (pc + 1) L (.int (x / z) :: st) sh I P ce sl) : Gx κ pc L (.int z :: .int x :: st) sh I P ce sl := by
  obtain ⟨p, l, e, R, s, m, args, below, meth, c, Q, D, dA, b, tA, nq⟩ := κ
  obtain ⟨hx, hb, hr, hml, rfl, hown, hts, hK, hnm, hlk, hfr, hlo, hbs⟩ := cx
  intro H locs ls hP hz hS hl
  exact lv_idiv hx hb hd hne (kk H locs ls hP hz hS hl)
theorem g_irem {κ : zX} {y : MethodName} {cc : ByteArray} {nL : Nat} {ret : Option FieldType} {fr lo : Nat} (cx : Cx y cc nL ret fr lo κ) {pc : Nat} {L st : List Value} {sh : zSh} {I : zI} {P : zP} {ce sl : Nat} {x z : Int32} (hd : decode cc pc = .ok (.irem, 1)) (hne : ¬ z = 0) (kk : Gx κ (pc + 1) L (.int (x - x / z * z) :: st) sh I P ce sl) : Gx κ pc L (.int z :: .int x :: st) sh I P ce sl := by
  obtain ⟨p, l, e, R, s, m, args, below, meth, c, Q, D, dA, b, tA, nq⟩ := κ
  obtain ⟨hx, hb, hr, hml, rfl, hown, hts, hK, hnm, hlk, hfr, hlo, hbs⟩ := cx
  intro H locs ls hP hz hS hl
  exact lv_irem hx hb hd hne (kk H locs ls hP hz hS hl)
theorem g_ineg {κ : zX} {y : MethodName} {cc : ByteArray} {nL : Nat} {ret : Option FieldType} {fr lo : Nat} (cx : Cx y cc nL ret fr lo κ) {pc : Nat} {L st : List Value} {sh : zSh} {I : zI} {P : zP} {ce sl : Nat} {x : Int32} (hd : decode cc pc = .ok (.ineg, 1))  (kk : Gx κ (pc + 1) L (.int (-x) :: st) sh I P ce sl) : Gx κ pc L (.int x :: st) sh I P ce sl := by
  obtain ⟨p, l, e, R, s, m, args, below, meth, c, Q, D, dA, b, tA, nq⟩ := κ
  obtain ⟨hx, hb, hr, hml, rfl, hown, hts, hK, hnm, hlk, hfr, hlo, hbs⟩ := cx
  intro H locs ls hP hz hS hl
  exact lv_ineg hx hb hd (kk H locs ls hP hz hS hl)
theorem g_i2b {κ : zX} {y : MethodName} {cc : ByteArray} {nL : Nat} {ret : Option FieldType} {fr lo : Nat} (cx : Cx y cc nL ret fr lo κ) {pc : Nat} {L st : List Value} {sh : zSh} {I : zI} {P : zP} {ce sl : Nat} {x : Int32} (hd : decode cc pc = .ok (.i2b, 1))  (kk : Gx κ (pc + 1) L (.int (x.toInt8.toInt32) :: st) sh I P ce sl) : Gx κ pc L (.int x :: st) sh I P ce sl := by
  obtain ⟨p, l, e, R, s, m, args, below, meth, c, Q, D, dA, b, tA, nq⟩ := κ
  obtain ⟨hx, hb, hr, hml, rfl, hown, hts, hK, hnm, hlk, hfr, hlo, hbs⟩ := cx
  intro H locs ls hP hz hS hl
  exact lv_i2b hx hb hd rfl (kk H locs ls hP hz hS hl)
theorem g_i2s {κ : zX} {y : MethodName} {cc : ByteArray} {nL : Nat} {ret : Option FieldType} {fr lo : Nat} (cx : Cx y cc nL ret fr lo κ) {pc : Nat} {L st : List Value} {sh : zSh} {I : zI} {P : zP} {ce sl : Nat} {x : Int32} (hd : decode cc pc = .ok (.i2s, 1))  (kk : Gx κ (pc + 1) L (.int (x.toInt16.toInt32) :: st) sh I P ce sl) : Gx κ pc L (.int x :: st) sh I P ce sl := by
  obtain ⟨p, l, e, R, s, m, args, below, meth, c, Q, D, dA, b, tA, nq⟩ := κ
  obtain ⟨hx, hb, hr, hml, rfl, hown, hts, hK, hnm, hlk, hfr, hlo, hbs⟩ := cx
  intro H locs ls hP hz hS hl
  exact lv_i2s hx hb hd rfl (kk H locs ls hP hz hS hl)
theorem g_iconst {κ : zX} {y : MethodName} {cc : ByteArray} {nL : Nat} {ret : Option FieldType} {fr lo : Nat} (cx : Cx y cc nL ret fr lo κ) {pc : Nat} {L st : List Value} {sh : zSh} {I : zI} {P : zP} {ce sl : Nat} {k : Int} {v : Int32} (hd : decode cc pc = .ok (.iconst k, 1)) (hv : Int32.ofInt k = v) (kk : Gx κ (pc + 1) L (.int v :: st) sh I P ce sl) : Gx κ pc L st sh I P ce sl := by
  obtain ⟨p, l, e, R, s, m, args, below, meth, c, Q, D, dA, b, tA, nq⟩ := κ
  obtain ⟨hx, hb, hr, hml, rfl, hown, hts, hK, hnm, hlk, hfr, hlo, hbs⟩ := cx
  intro H locs ls hP hz hS hl
  exact lv_iconst hx hb hd hv (kk H locs ls hP hz hS hl)
theorem g_bipush {κ : zX} {y : MethodName} {cc : ByteArray} {nL : Nat} {ret : Option FieldType} {fr lo : Nat} (cx : Cx y cc nL ret fr lo κ) {pc : Nat} {L st : List Value} {sh : zSh} {I : zI} {P : zP} {ce sl : Nat} {k : Int} {v : Int32} (hd : decode cc pc = .ok (.bipush k, 2)) (hv : (Int8.ofInt k).toInt32 = v) (kk : Gx κ (pc + 2) L (.int v :: st) sh I P ce sl) : Gx κ pc L st sh I P ce sl := by
  obtain ⟨p, l, e, R, s, m, args, below, meth, c, Q, D, dA, b, tA, nq⟩ := κ
  obtain ⟨hx, hb, hr, hml, rfl, hown, hts, hK, hnm, hlk, hfr, hlo, hbs⟩ := cx
  intro H locs ls hP hz hS hl
  exact lv_bipush hx hb hd hv (kk H locs ls hP hz hS hl)
theorem g_sipush {κ : zX} {y : MethodName} {cc : ByteArray} {nL : Nat} {ret : Option FieldType} {fr lo : Nat} (cx : Cx y cc nL ret fr lo κ) {pc : Nat} {L st : List Value} {sh : zSh} {I : zI} {P : zP} {ce sl : Nat} {k : Int} {v : Int32} (hd : decode cc pc = .ok (.sipush k, 3)) (hv : (Int16.ofInt k).toInt32 = v) (kk : Gx κ (pc + 3) L (.int v :: st) sh I P ce sl) : Gx κ pc L st sh I P ce sl := by
  obtain ⟨p, l, e, R, s, m, args, below, meth, c, Q, D, dA, b, tA, nq⟩ := κ
  obtain ⟨hx, hb, hr, hml, rfl, hown, hts, hK, hnm, hlk, hfr, hlo, hbs⟩ := cx
  intro H locs ls hP hz hS hl
  exact lv_sipush hx hb hd hv (kk H locs ls hP hz hS hl)
theorem g_ldc {κ : zX} {y : MethodName} {cc : ByteArray} {nL : Nat} {ret : Option FieldType} {fr lo : Nat} (cx : Cx y cc nL ret fr lo κ) {pc : Nat} {L st : List Value} {sh : zSh} {I : zI} {P : zP} {ce sl : Nat} {k : Nat} {v : Int32} (hd : decode cc pc = .ok (.ldc k, 2)) (hc : Cond.constant y.cls k v ∈ wsG) (kk : Gx κ (pc + 2) L (.int v :: st) sh I P ce sl) : Gx κ pc L st sh I P ce sl := by
  obtain ⟨p, l, e, R, s, m, args, below, meth, c, Q, D, dA, b, tA, nq⟩ := κ
  obtain ⟨hx, hb, hr, hml, rfl, hown, hts, hK, hnm, hlk, hfr, hlo, hbs⟩ := cx
  intro H locs ls hP hz hS hl
  exact lv_ldc hx hb hown (hts _ hc) hd (kk H locs ls hP hz hS hl)
theorem g_iload_n {κ : zX} {y : MethodName} {cc : ByteArray} {nL : Nat} {ret : Option FieldType} {fr lo : Nat} (cx : Cx y cc nL ret fr lo κ) {pc : Nat} {L st : List Value} {sh : zSh} {I : zI} {P : zP} {ce sl : Nat} {k : Fin 4} {x : Int32} (hd : decode cc pc = .ok (.iload_n k, 1)) (hi : L[k.val]? = some (.int x)) (kk : Gx κ (pc + 1) L (.int x :: st) sh I P ce sl) : Gx κ pc L st sh I P ce sl := by
  obtain ⟨p, l, e, R, s, m, args, below, meth, c, Q, D, dA, b, tA, nq⟩ := κ
  obtain ⟨hx, hb, hr, hml, rfl, hown, hts, hK, hnm, hlk, hfr, hlo, hbs⟩ := cx
  intro H locs ls hP hz hS hl
  exact lv_iload_n hx hb hd rfl (zl_get hl hi rfl) (kk H locs ls hP hz hS hl)
theorem g_iload {κ : zX} {y : MethodName} {cc : ByteArray} {nL : Nat} {ret : Option FieldType} {fr lo : Nat} (cx : Cx y cc nL ret fr lo κ) {pc : Nat} {L st : List Value} {sh : zSh} {I : zI} {P : zP} {ce sl : Nat} {k : Nat} {x : Int32} (hd : decode cc pc = .ok (.iload k, 2)) (hi : L[k]? = some (.int x)) (kk : Gx κ (pc + 2) L (.int x :: st) sh I P ce sl) : Gx κ pc L st sh I P ce sl := by
  obtain ⟨p, l, e, R, s, m, args, below, meth, c, Q, D, dA, b, tA, nq⟩ := κ
  obtain ⟨hx, hb, hr, hml, rfl, hown, hts, hK, hnm, hlk, hfr, hlo, hbs⟩ := cx
  intro H locs ls hP hz hS hl
  exact lv_iload hx hb hd (zl_get hl hi rfl) (kk H locs ls hP hz hS hl)
theorem g_aload_n {κ : zX} {y : MethodName} {cc : ByteArray} {nL : Nat} {ret : Option FieldType} {fr lo : Nat} (cx : Cx y cc nL ret fr lo κ) {pc : Nat} {L st : List Value} {sh : zSh} {I : zI} {P : zP} {ce sl : Nat} {k : Fin 4} {x : Nat} (hd : decode cc pc = .ok (.aload_n k, 1)) (hi : L[k.val]? = some (.ref x)) (kk : Gx κ (pc + 1) L (.ref x :: st) sh I P ce sl) : Gx κ pc L st sh I P ce sl := by
  obtain ⟨p, l, e, R, s, m, args, below, meth, c, Q, D, dA, b, tA, nq⟩ := κ
  obtain ⟨hx, hb, hr, hml, rfl, hown, hts, hK, hnm, hlk, hfr, hlo, hbs⟩ := cx
  intro H locs ls hP hz hS hl
  exact lv_aload_n hx hb hd rfl (zl_get hl hi rfl) (kk H locs ls hP hz hS hl)
theorem g_aload {κ : zX} {y : MethodName} {cc : ByteArray} {nL : Nat} {ret : Option FieldType} {fr lo : Nat} (cx : Cx y cc nL ret fr lo κ) {pc : Nat} {L st : List Value} {sh : zSh} {I : zI} {P : zP} {ce sl : Nat} {k : Nat} {x : Nat} (hd : decode cc pc = .ok (.aload k, 2)) (hi : L[k]? = some (.ref x)) (kk : Gx κ (pc + 2) L (.ref x :: st) sh I P ce sl) : Gx κ pc L st sh I P ce sl := by
  obtain ⟨p, l, e, R, s, m, args, below, meth, c, Q, D, dA, b, tA, nq⟩ := κ
  obtain ⟨hx, hb, hr, hml, rfl, hown, hts, hK, hnm, hlk, hfr, hlo, hbs⟩ := cx
  intro H locs ls hP hz hS hl
  exact lv_aload hx hb hd (zl_get hl hi rfl) (kk H locs ls hP hz hS hl)
theorem g_dup {κ : zX} {y : MethodName} {cc : ByteArray} {nL : Nat} {ret : Option FieldType} {fr lo : Nat} (cx : Cx y cc nL ret fr lo κ) {pc : Nat} {L st : List Value} {sh : zSh} {I : zI} {P : zP} {ce sl : Nat} {v : Value} (hd : decode cc pc = .ok (.dup, 1)) (hv : zlive v = true) (kk : Gx κ (pc + 1) L (v :: v :: st) sh I P ce sl) : Gx κ pc L (v :: st) sh I P ce sl := by
  obtain ⟨p, l, e, R, s, m, args, below, meth, c, Q, D, dA, b, tA, nq⟩ := κ
  obtain ⟨hx, hb, hr, hml, rfl, hown, hts, hK, hnm, hlk, hfr, hlo, hbs⟩ := cx
  intro H locs ls hP hz hS hl
  exact lv_dup hx hb hd (zv_cat hv) (kk H locs ls hP hz hS hl)
theorem g_dup2 {κ : zX} {y : MethodName} {cc : ByteArray} {nL : Nat} {ret : Option FieldType} {fr lo : Nat} (cx : Cx y cc nL ret fr lo κ) {pc : Nat} {L st : List Value} {sh : zSh} {I : zI} {P : zP} {ce sl : Nat} {v w : Value} (hd : decode cc pc = .ok (.dup2, 1)) (hv : zlive v = true) (hw : zlive w = true) (kk : Gx κ (pc + 1) L (v :: w :: v :: w :: st) sh I P ce sl) : Gx κ pc L (v :: w :: st) sh I P ce sl := by
  obtain ⟨p, l, e, R, s, m, args, below, meth, c, Q, D, dA, b, tA, nq⟩ := κ
  obtain ⟨hx, hb, hr, hml, rfl, hown, hts, hK, hnm, hlk, hfr, hlo, hbs⟩ := cx
  intro H locs ls hP hz hS hl
  exact lv_dup2_11 hx hb hd (zv_cat hv) (zv_cat hw) (kk H locs ls hP hz hS hl)
theorem g_pop {κ : zX} {y : MethodName} {cc : ByteArray} {nL : Nat} {ret : Option FieldType} {fr lo : Nat} (cx : Cx y cc nL ret fr lo κ) {pc : Nat} {L st : List Value} {sh : zSh} {I : zI} {P : zP} {ce sl : Nat} {v : Value} (hd : decode cc pc = .ok (.pop, 1)) (hv : zlive v = true) (kk : Gx κ (pc + 1) L st sh I P ce sl) : Gx κ pc L (v :: st) sh I P ce sl := by
  obtain ⟨p, l, e, R, s, m, args, below, meth, c, Q, D, dA, b, tA, nq⟩ := κ
  obtain ⟨hx, hb, hr, hml, rfl, hown, hts, hK, hnm, hlk, hfr, hlo, hbs⟩ := cx
  intro H locs ls hP hz hS hl
  exact lv_pop hx hb hd (zv_cat hv) (kk H locs ls hP hz hS hl)
theorem g_istore_n {κ : zX} {y : MethodName} {cc : ByteArray} {nL : Nat} {ret : Option FieldType} {fr lo : Nat} (cx : Cx y cc nL ret fr lo κ) {pc : Nat} {L st : List Value} {sh : zSh} {I : zI} {P : zP} {ce sl : Nat} {k : Fin 4} {x : Int32} (hd : decode cc pc = .ok (.istore_n k, 1)) (hn : k.val < nL) (kk : Gx κ (pc + 1) (L.set k.val (.int x)) st sh I P ce sl) : Gx κ pc L (.int x :: st) sh I P ce sl := by
  obtain ⟨p, l, e, R, s, m, args, below, meth, c, Q, D, dA, b, tA, nq⟩ := κ
  obtain ⟨hx, hb, hr, hml, rfl, hown, hts, hK, hnm, hlk, hfr, hlo, hbs⟩ := cx
  intro H locs ls hP hz hS hl
  exact lv_istore_n hx hb hd rfl hl hn rfl (fun ls' hl' => kk H locs ls' hP hz hS (zl_set hl'))
theorem g_istore {κ : zX} {y : MethodName} {cc : ByteArray} {nL : Nat} {ret : Option FieldType} {fr lo : Nat} (cx : Cx y cc nL ret fr lo κ) {pc : Nat} {L st : List Value} {sh : zSh} {I : zI} {P : zP} {ce sl : Nat} {k : Nat} {x : Int32} (hd : decode cc pc = .ok (.istore k, 2)) (hn : k < nL) (kk : Gx κ (pc + 2) (L.set k (.int x)) st sh I P ce sl) : Gx κ pc L (.int x :: st) sh I P ce sl := by
  obtain ⟨p, l, e, R, s, m, args, below, meth, c, Q, D, dA, b, tA, nq⟩ := κ
  obtain ⟨hx, hb, hr, hml, rfl, hown, hts, hK, hnm, hlk, hfr, hlo, hbs⟩ := cx
  intro H locs ls hP hz hS hl
  exact lv_istore hx hb hd hl hn rfl (fun ls' hl' => kk H locs ls' hP hz hS (zl_set hl'))
theorem g_astore_n {κ : zX} {y : MethodName} {cc : ByteArray} {nL : Nat} {ret : Option FieldType} {fr lo : Nat} (cx : Cx y cc nL ret fr lo κ) {pc : Nat} {L st : List Value} {sh : zSh} {I : zI} {P : zP} {ce sl : Nat} {k : Fin 4} {x : Nat} (hd : decode cc pc = .ok (.astore_n k, 1)) (hn : k.val < nL) (kk : Gx κ (pc + 1) (L.set k.val (.ref x)) st sh I P ce sl) : Gx κ pc L (.ref x :: st) sh I P ce sl := by
  obtain ⟨p, l, e, R, s, m, args, below, meth, c, Q, D, dA, b, tA, nq⟩ := κ
  obtain ⟨hx, hb, hr, hml, rfl, hown, hts, hK, hnm, hlk, hfr, hlo, hbs⟩ := cx
  intro H locs ls hP hz hS hl
  exact lv_astore_n hx hb hd rfl hl hn rfl (fun ls' hl' => kk H locs ls' hP hz hS (zl_set hl'))
theorem g_astore {κ : zX} {y : MethodName} {cc : ByteArray} {nL : Nat} {ret : Option FieldType} {fr lo : Nat} (cx : Cx y cc nL ret fr lo κ) {pc : Nat} {L st : List Value} {sh : zSh} {I : zI} {P : zP} {ce sl : Nat} {k : Nat} {x : Nat} (hd : decode cc pc = .ok (.astore k, 2)) (hn : k < nL) (kk : Gx κ (pc + 2) (L.set k (.ref x)) st sh I P ce sl) : Gx κ pc L (.ref x :: st) sh I P ce sl := by
  obtain ⟨p, l, e, R, s, m, args, below, meth, c, Q, D, dA, b, tA, nq⟩ := κ
  obtain ⟨hx, hb, hr, hml, rfl, hown, hts, hK, hnm, hlk, hfr, hlo, hbs⟩ := cx
  intro H locs ls hP hz hS hl
  exact lv_astore hx hb hd hl hn rfl (fun ls' hl' => kk H locs ls' hP hz hS (zl_set hl'))
theorem g_iinc {κ : zX} {y : MethodName} {cc : ByteArray} {nL : Nat} {ret : Option FieldType} {fr lo : Nat} (cx : Cx y cc nL ret fr lo κ) {pc : Nat} {L st : List Value} {sh : zSh} {I : zI} {P : zP} {ce sl : Nat} {k : Nat} {d : Int} {x v : Int32} (hd : decode cc pc = .ok (.iinc k d, 3)) (hi : L[k]? = some (.int x)) (hv : x + Int32.ofInt d = v) (hn : k < nL) (kk : Gx κ (pc + 3) (L.set k (.int v)) st sh I P ce sl) : Gx κ pc L st sh I P ce sl := by
  obtain ⟨p, l, e, R, s, m, args, below, meth, c, Q, D, dA, b, tA, nq⟩ := κ
  obtain ⟨hx, hb, hr, hml, rfl, hown, hts, hK, hnm, hlk, hfr, hlo, hbs⟩ := cx
  intro H locs ls hP hz hS hl
  have hm : (k, Value.int x) ∈ zl b tA L := zl_mem.mpr ⟨.int x, hi, rfl, rfl⟩
  obtain ⟨j, hj⟩ := List.getElem?_of_mem hm
  exact lv_iinc hx hb hd hl hj hv hn rfl (fun ls' hl' => kk H locs ls' hP hz hS (zl_set hl'))
theorem g_icmp_eq {κ : zX} {y : MethodName} {cc : ByteArray} {nL : Nat} {ret : Option FieldType} {fr lo : Nat} (cx : Cx y cc nL ret fr lo κ) {pc : Nat} {L st : List Value} {sh : zSh} {I : zI} {P : zP} {ce sl : Nat} {x z : Int32} {off : Int} {tgt : Nat} (hd : decode cc pc = .ok (.if_icmp .eq off, 3)) (ht : (pc : Int) + off = (tgt : Int)) (kt : x = z → Gx κ tgt L st sh I P ce sl) (kf : ¬ x = z → Gx κ (pc + 3) L st sh I P ce sl) : Gx κ pc L (.int z :: .int x :: st) sh I P ce sl := by
  obtain ⟨p, l, e, R, s, m, args, below, meth, c, Q, D, dA, b, tA, nq⟩ := κ
  obtain ⟨hx, hb, hr, hml, rfl, hown, hts, hK, hnm, hlk, hfr, hlo, hbs⟩ := cx
  intro H locs ls hP hz hS hl
  exact lv_icmp_eq hx hb hd ht (fun q => kt q H locs ls hP hz hS hl) (fun q => kf q H locs ls hP hz hS hl)
theorem g_if_eq {κ : zX} {y : MethodName} {cc : ByteArray} {nL : Nat} {ret : Option FieldType} {fr lo : Nat} (cx : Cx y cc nL ret fr lo κ) {pc : Nat} {L st : List Value} {sh : zSh} {I : zI} {P : zP} {ce sl : Nat} {x : Int32} {off : Int} {tgt : Nat} (hd : decode cc pc = .ok (.ifCond .eq off, 3)) (ht : (pc : Int) + off = (tgt : Int)) (kt : x = 0 → Gx κ tgt L st sh I P ce sl) (kf : ¬ x = 0 → Gx κ (pc + 3) L st sh I P ce sl) : Gx κ pc L (.int x :: st) sh I P ce sl := by
  obtain ⟨p, l, e, R, s, m, args, below, meth, c, Q, D, dA, b, tA, nq⟩ := κ
  obtain ⟨hx, hb, hr, hml, rfl, hown, hts, hK, hnm, hlk, hfr, hlo, hbs⟩ := cx
  intro H locs ls hP hz hS hl
  exact lv_if_eq hx hb hd ht (fun q => kt q H locs ls hP hz hS hl) (fun q => kf q H locs ls hP hz hS hl)
theorem g_icmp_ne {κ : zX} {y : MethodName} {cc : ByteArray} {nL : Nat} {ret : Option FieldType} {fr lo : Nat} (cx : Cx y cc nL ret fr lo κ) {pc : Nat} {L st : List Value} {sh : zSh} {I : zI} {P : zP} {ce sl : Nat} {x z : Int32} {off : Int} {tgt : Nat} (hd : decode cc pc = .ok (.if_icmp .ne off, 3)) (ht : (pc : Int) + off = (tgt : Int)) (kt : ¬ x = z → Gx κ tgt L st sh I P ce sl) (kf : x = z → Gx κ (pc + 3) L st sh I P ce sl) : Gx κ pc L (.int z :: .int x :: st) sh I P ce sl := by
  obtain ⟨p, l, e, R, s, m, args, below, meth, c, Q, D, dA, b, tA, nq⟩ := κ
  obtain ⟨hx, hb, hr, hml, rfl, hown, hts, hK, hnm, hlk, hfr, hlo, hbs⟩ := cx
  intro H locs ls hP hz hS hl
  exact lv_icmp_ne hx hb hd ht (fun q => kt q H locs ls hP hz hS hl) (fun q => kf q H locs ls hP hz hS hl)
theorem g_if_ne {κ : zX} {y : MethodName} {cc : ByteArray} {nL : Nat} {ret : Option FieldType} {fr lo : Nat} (cx : Cx y cc nL ret fr lo κ) {pc : Nat} {L st : List Value} {sh : zSh} {I : zI} {P : zP} {ce sl : Nat} {x : Int32} {off : Int} {tgt : Nat} (hd : decode cc pc = .ok (.ifCond .ne off, 3)) (ht : (pc : Int) + off = (tgt : Int)) (kt : ¬ x = 0 → Gx κ tgt L st sh I P ce sl) (kf : x = 0 → Gx κ (pc + 3) L st sh I P ce sl) : Gx κ pc L (.int x :: st) sh I P ce sl := by
  obtain ⟨p, l, e, R, s, m, args, below, meth, c, Q, D, dA, b, tA, nq⟩ := κ
  obtain ⟨hx, hb, hr, hml, rfl, hown, hts, hK, hnm, hlk, hfr, hlo, hbs⟩ := cx
  intro H locs ls hP hz hS hl
  exact lv_if_ne hx hb hd ht (fun q => kt q H locs ls hP hz hS hl) (fun q => kf q H locs ls hP hz hS hl)
theorem g_icmp_lt {κ : zX} {y : MethodName} {cc : ByteArray} {nL : Nat} {ret : Option FieldType} {fr lo : Nat} (cx : Cx y cc nL ret fr lo κ) {pc : Nat} {L st : List Value} {sh : zSh} {I : zI} {P : zP} {ce sl : Nat} {x z : Int32} {off : Int} {tgt : Nat} (hd : decode cc pc = .ok (.if_icmp .lt off, 3)) (ht : (pc : Int) + off = (tgt : Int)) (kt : x < z → Gx κ tgt L st sh I P ce sl) (kf : ¬ x < z → Gx κ (pc + 3) L st sh I P ce sl) : Gx κ pc L (.int z :: .int x :: st) sh I P ce sl := by
  obtain ⟨p, l, e, R, s, m, args, below, meth, c, Q, D, dA, b, tA, nq⟩ := κ
  obtain ⟨hx, hb, hr, hml, rfl, hown, hts, hK, hnm, hlk, hfr, hlo, hbs⟩ := cx
  intro H locs ls hP hz hS hl
  exact lv_icmp_lt hx hb hd ht (fun q => kt q H locs ls hP hz hS hl) (fun q => kf q H locs ls hP hz hS hl)
theorem g_if_lt {κ : zX} {y : MethodName} {cc : ByteArray} {nL : Nat} {ret : Option FieldType} {fr lo : Nat} (cx : Cx y cc nL ret fr lo κ) {pc : Nat} {L st : List Value} {sh : zSh} {I : zI} {P : zP} {ce sl : Nat} {x : Int32} {off : Int} {tgt : Nat} (hd : decode cc pc = .ok (.ifCond .lt off, 3)) (ht : (pc : Int) + off = (tgt : Int)) (kt : x < 0 → Gx κ tgt L st sh I P ce sl) (kf : ¬ x < 0 → Gx κ (pc + 3) L st sh I P ce sl) : Gx κ pc L (.int x :: st) sh I P ce sl := by
  obtain ⟨p, l, e, R, s, m, args, below, meth, c, Q, D, dA, b, tA, nq⟩ := κ
  obtain ⟨hx, hb, hr, hml, rfl, hown, hts, hK, hnm, hlk, hfr, hlo, hbs⟩ := cx
  intro H locs ls hP hz hS hl
  exact lv_if_lt hx hb hd ht (fun q => kt q H locs ls hP hz hS hl) (fun q => kf q H locs ls hP hz hS hl)
theorem g_icmp_ge {κ : zX} {y : MethodName} {cc : ByteArray} {nL : Nat} {ret : Option FieldType} {fr lo : Nat} (cx : Cx y cc nL ret fr lo κ) {pc : Nat} {L st : List Value} {sh : zSh} {I : zI} {P : zP} {ce sl : Nat} {x z : Int32} {off : Int} {tgt : Nat} (hd : decode cc pc = .ok (.if_icmp .ge off, 3)) (ht : (pc : Int) + off = (tgt : Int)) (kt : z ≤ x → Gx κ tgt L st sh I P ce sl) (kf : ¬ z ≤ x → Gx κ (pc + 3) L st sh I P ce sl) : Gx κ pc L (.int z :: .int x :: st) sh I P ce sl := by
  obtain ⟨p, l, e, R, s, m, args, below, meth, c, Q, D, dA, b, tA, nq⟩ := κ
  obtain ⟨hx, hb, hr, hml, rfl, hown, hts, hK, hnm, hlk, hfr, hlo, hbs⟩ := cx
  intro H locs ls hP hz hS hl
  exact lv_icmp_ge hx hb hd ht (fun q => kt q H locs ls hP hz hS hl) (fun q => kf q H locs ls hP hz hS hl)
theorem g_if_ge {κ : zX} {y : MethodName} {cc : ByteArray} {nL : Nat} {ret : Option FieldType} {fr lo : Nat} (cx : Cx y cc nL ret fr lo κ) {pc : Nat} {L st : List Value} {sh : zSh} {I : zI} {P : zP} {ce sl : Nat} {x : Int32} {off : Int} {tgt : Nat} (hd : decode cc pc = .ok (.ifCond .ge off, 3)) (ht : (pc : Int) + off = (tgt : Int)) (kt : 0 ≤ x → Gx κ tgt L st sh I P ce sl) (kf : ¬ 0 ≤ x → Gx κ (pc + 3) L st sh I P ce sl) : Gx κ pc L (.int x :: st) sh I P ce sl := by
  obtain ⟨p, l, e, R, s, m, args, below, meth, c, Q, D, dA, b, tA, nq⟩ := κ
  obtain ⟨hx, hb, hr, hml, rfl, hown, hts, hK, hnm, hlk, hfr, hlo, hbs⟩ := cx
  intro H locs ls hP hz hS hl
  exact lv_if_ge hx hb hd ht (fun q => kt q H locs ls hP hz hS hl) (fun q => kf q H locs ls hP hz hS hl)
theorem g_icmp_gt {κ : zX} {y : MethodName} {cc : ByteArray} {nL : Nat} {ret : Option FieldType} {fr lo : Nat} (cx : Cx y cc nL ret fr lo κ) {pc : Nat} {L st : List Value} {sh : zSh} {I : zI} {P : zP} {ce sl : Nat} {x z : Int32} {off : Int} {tgt : Nat} (hd : decode cc pc = .ok (.if_icmp .gt off, 3)) (ht : (pc : Int) + off = (tgt : Int)) (kt : z < x → Gx κ tgt L st sh I P ce sl) (kf : ¬ z < x → Gx κ (pc + 3) L st sh I P ce sl) : Gx κ pc L (.int z :: .int x :: st) sh I P ce sl := by
  obtain ⟨p, l, e, R, s, m, args, below, meth, c, Q, D, dA, b, tA, nq⟩ := κ
  obtain ⟨hx, hb, hr, hml, rfl, hown, hts, hK, hnm, hlk, hfr, hlo, hbs⟩ := cx
  intro H locs ls hP hz hS hl
  exact lv_icmp_gt hx hb hd ht (fun q => kt q H locs ls hP hz hS hl) (fun q => kf q H locs ls hP hz hS hl)
theorem g_if_gt {κ : zX} {y : MethodName} {cc : ByteArray} {nL : Nat} {ret : Option FieldType} {fr lo : Nat} (cx : Cx y cc nL ret fr lo κ) {pc : Nat} {L st : List Value} {sh : zSh} {I : zI} {P : zP} {ce sl : Nat} {x : Int32} {off : Int} {tgt : Nat} (hd : decode cc pc = .ok (.ifCond .gt off, 3)) (ht : (pc : Int) + off = (tgt : Int)) (kt : 0 < x → Gx κ tgt L st sh I P ce sl) (kf : ¬ 0 < x → Gx κ (pc + 3) L st sh I P ce sl) : Gx κ pc L (.int x :: st) sh I P ce sl := by
  obtain ⟨p, l, e, R, s, m, args, below, meth, c, Q, D, dA, b, tA, nq⟩ := κ
  obtain ⟨hx, hb, hr, hml, rfl, hown, hts, hK, hnm, hlk, hfr, hlo, hbs⟩ := cx
  intro H locs ls hP hz hS hl
  exact lv_if_gt hx hb hd ht (fun q => kt q H locs ls hP hz hS hl) (fun q => kf q H locs ls hP hz hS hl)
theorem g_icmp_le {κ : zX} {y : MethodName} {cc : ByteArray} {nL : Nat} {ret : Option FieldType} {fr lo : Nat} (cx : Cx y cc nL ret fr lo κ) {pc : Nat} {L st : List Value} {sh : zSh} {I : zI} {P : zP} {ce sl : Nat} {x z : Int32} {off : Int} {tgt : Nat} (hd : decode cc pc = .ok (.if_icmp .le off, 3)) (ht : (pc : Int) + off = (tgt : Int)) (kt : x ≤ z → Gx κ tgt L st sh I P ce sl) (kf : ¬ x ≤ z → Gx κ (pc + 3) L st sh I P ce sl) : Gx κ pc L (.int z :: .int x :: st) sh I P ce sl := by
  obtain ⟨p, l, e, R, s, m, args, below, meth, c, Q, D, dA, b, tA, nq⟩ := κ
  obtain ⟨hx, hb, hr, hml, rfl, hown, hts, hK, hnm, hlk, hfr, hlo, hbs⟩ := cx
  intro H locs ls hP hz hS hl
  exact lv_icmp_le hx hb hd ht (fun q => kt q H locs ls hP hz hS hl) (fun q => kf q H locs ls hP hz hS hl)
theorem g_if_le {κ : zX} {y : MethodName} {cc : ByteArray} {nL : Nat} {ret : Option FieldType} {fr lo : Nat} (cx : Cx y cc nL ret fr lo κ) {pc : Nat} {L st : List Value} {sh : zSh} {I : zI} {P : zP} {ce sl : Nat} {x : Int32} {off : Int} {tgt : Nat} (hd : decode cc pc = .ok (.ifCond .le off, 3)) (ht : (pc : Int) + off = (tgt : Int)) (kt : x ≤ 0 → Gx κ tgt L st sh I P ce sl) (kf : ¬ x ≤ 0 → Gx κ (pc + 3) L st sh I P ce sl) : Gx κ pc L (.int x :: st) sh I P ce sl := by
  obtain ⟨p, l, e, R, s, m, args, below, meth, c, Q, D, dA, b, tA, nq⟩ := κ
  obtain ⟨hx, hb, hr, hml, rfl, hown, hts, hK, hnm, hlk, hfr, hlo, hbs⟩ := cx
  intro H locs ls hP hz hS hl
  exact lv_if_le hx hb hd ht (fun q => kt q H locs ls hP hz hS hl) (fun q => kf q H locs ls hP hz hS hl)
theorem g_goto {κ : zX} {y : MethodName} {cc : ByteArray} {nL : Nat} {ret : Option FieldType} {fr lo : Nat} (cx : Cx y cc nL ret fr lo κ) {pc : Nat} {L st : List Value} {sh : zSh} {I : zI} {P : zP} {ce sl : Nat} {off : Int} {tgt : Nat} (hd : decode cc pc = .ok (.goto off, 3)) (ht : (pc : Int) + off = (tgt : Int)) (kk : Gx κ tgt L st sh I P ce sl) : Gx κ pc L st sh I P ce sl := by
  obtain ⟨p, l, e, R, s, m, args, below, meth, c, Q, D, dA, b, tA, nq⟩ := κ
  obtain ⟨hx, hb, hr, hml, rfl, hown, hts, hK, hnm, hlk, hfr, hlo, hbs⟩ := cx
  intro H locs ls hP hz hS hl
  exact lv_goto hx hb hd ht (kk H locs ls hP hz hS hl)
theorem g_tabIn {κ : zX} {y : MethodName} {cc : ByteArray} {nL : Nat} {ret : Option FieldType} {fr lo : Nat} (cx : Cx y cc nL ret fr lo κ) {pc : Nat} {L st : List Value} {sh : zSh} {I : zI} {P : zP} {ce sl : Nat} {dflt lo9 hi9 : Int} {offs : Array Int} {len : Nat} {x : Int32} {off : Int} {tgt : Nat} (hd : decode cc pc = .ok (.tableswitch dflt lo9 hi9 offs, len)) (h1 : ¬ x.toInt < lo9) (h2 : ¬ hi9 < x.toInt) (ho : offs[(x.toInt - lo9).toNat]? = some off) (ht : (pc : Int) + off = (tgt : Int)) (kk : Gx κ tgt L st sh I P ce sl) : Gx κ pc L (.int x :: st) sh I P ce sl := by
  obtain ⟨p, l, e, R, s, m, args, below, meth, c, Q, D, dA, b, tA, nq⟩ := κ
  obtain ⟨hx, hb, hr, hml, rfl, hown, hts, hK, hnm, hlk, hfr, hlo, hbs⟩ := cx
  intro H locs ls hP hz hS hl
  exact lv_tableIn hx hb hd h1 h2 ho ht (kk H locs ls hP hz hS hl)
theorem g_tabOut {κ : zX} {y : MethodName} {cc : ByteArray} {nL : Nat} {ret : Option FieldType} {fr lo : Nat} (cx : Cx y cc nL ret fr lo κ) {pc : Nat} {L st : List Value} {sh : zSh} {I : zI} {P : zP} {ce sl : Nat} {dflt lo9 hi9 : Int} {offs : Array Int} {len : Nat} {x : Int32} {tgt : Nat} (hd : decode cc pc = .ok (.tableswitch dflt lo9 hi9 offs, len)) (h1 : x.toInt < lo9 ∨ hi9 < x.toInt) (ht : (pc : Int) + dflt = (tgt : Int)) (kk : Gx κ tgt L st sh I P ce sl) : Gx κ pc L (.int x :: st) sh I P ce sl := by
  obtain ⟨p, l, e, R, s, m, args, below, meth, c, Q, D, dA, b, tA, nq⟩ := κ
  obtain ⟨hx, hb, hr, hml, rfl, hown, hts, hK, hnm, hlk, hfr, hlo, hbs⟩ := cx
  intro H locs ls hP hz hS hl
  exact lv_tableOut hx hb hd h1 ht (kk H locs ls hP hz hS hl)
theorem g_lookup {κ : zX} {y : MethodName} {cc : ByteArray} {nL : Nat} {ret : Option FieldType} {fr lo : Nat} (cx : Cx y cc nL ret fr lo κ) {pc : Nat} {L st : List Value} {sh : zSh} {I : zI} {P : zP} {ce sl : Nat} {dflt : Int} {ps : Array (Int × Int)} {len : Nat} {x : Int32} {off : Int} {tgt : Nat} (hd : decode cc pc = .ok (.lookupswitch dflt ps, len)) (hp : (ps.toList.zip (ps.toList.drop 1)).all (fun (a, next) => a.1 < next.1) = true) (ho : Op.lookupswitch.offset ps.toList dflt x.toInt = off) (ht : (pc : Int) + off = (tgt : Int)) (kk : Gx κ tgt L st sh I P ce sl) : Gx κ pc L (.int x :: st) sh I P ce sl := by
  obtain ⟨p, l, e, R, s, m, args, below, meth, c, Q, D, dA, b, tA, nq⟩ := κ
  obtain ⟨hx, hb, hr, hml, rfl, hown, hts, hK, hnm, hlk, hfr, hlo, hbs⟩ := cx
  intro H locs ls hP hz hS hl
  exact lv_lookup hx hb hd hp ho ht (kk H locs ls hP hz hS hl)
theorem g_iret {κ : zX} {y : MethodName} {cc : ByteArray} {nL : Nat} {ret : Option FieldType} {fr lo : Nat} (cx : Cx y cc nL ret fr lo κ) {pc : Nat} {L : List Value} {sh : zSh} {I : zI} {P : zP} {ce sl : Nat} {Qf : Option Value → zSh → zI → zP → Prop} {mc ms : Nat} {v : Int32} {ty : FieldType} (hE : zEnd Qf mc ms κ) (hc : ce ≤ mc) (hs : sl ≤ ms) (hrt : ret = some ty) (hn : narrow ty (.int v) = .int v) (hd : decode cc pc = .ok (.ireturn, 1)) (hq : Qf (some (.int v)) sh I P) : Gx κ pc L [.int v] sh I P ce sl := by
  obtain ⟨p, l, e, R, s, m, args, below, meth, c, Q, D, dA, b, tA, nq⟩ := κ
  obtain ⟨hx, hb, hr, hml, rfl, hown, hts, hK, hnm, hlk, hfr, hlo, hbs⟩ := cx
  intro H locs ls hP hz hS hl
  obtain ⟨rfl, -, -⟩ := hE
  refine W.widen hc hs ?_
  exact W.zret hx hb (hr.trans hrt) hn (fun t ht hW => ⟨⟨some (.int v), sh, I, P, rfl, hq, by rw [ht]; exact hP, by rw [ht]; exact hz⟩, hS.F ht⟩) hS.2.2 hd
theorem g_vret {κ : zX} {y : MethodName} {cc : ByteArray} {nL : Nat} {ret : Option FieldType} {fr lo : Nat} (cx : Cx y cc nL ret fr lo κ) {pc : Nat} {L : List Value} {sh : zSh} {I : zI} {P : zP} {ce sl : Nat} {Qf : Option Value → zSh → zI → zP → Prop} {mc ms : Nat} (hE : zEnd Qf mc ms κ) (hc : ce ≤ mc) (hs : sl ≤ ms) (hrt : ret = none) (hd : decode cc pc = .ok (.return_, 1)) (hq : Qf none sh I P) : Gx κ pc L [] sh I P ce sl := by
  obtain ⟨p, l, e, R, s, m, args, below, meth, c, Q, D, dA, b, tA, nq⟩ := κ
  obtain ⟨hx, hb, hr, hml, rfl, hown, hts, hK, hnm, hlk, hfr, hlo, hbs⟩ := cx
  intro H locs ls hP hz hS hl
  obtain ⟨rfl, -, -⟩ := hE
  refine W.widen hc hs ?_
  exact W.vret hx hb (hr.trans hrt) (fun t ht hW => ⟨⟨none, sh, I, P, rfl, hq, by rw [ht]; exact hP, by rw [ht]; exact hz⟩, hS.F ht⟩) hS.2.2 hd
theorem g_aret {κ : zX} {y : MethodName} {cc : ByteArray} {nL : Nat} {ret : Option FieldType} {fr lo : Nat} (cx : Cx y cc nL ret fr lo κ) {pc : Nat} {L : List Value} {sh : zSh} {I : zI} {P : zP} {ce sl : Nat} {Qf : Option Value → zSh → zI → zP → Prop} {mc ms : Nat} {k : Nat} {rt : FieldType} (hE : zEnd Qf mc ms κ) (hc : ce ≤ mc) (hs : sl ≤ ms) (hrt : ret = some rt) (hrt2 : (∃ n, rt = .object n) ∨ ∃ t, rt = .array t) (hd : decode cc pc = .ok (.areturn, 1)) (hq : Qf (some (.ref k)) sh I P) : Gx κ pc L [.ref k] sh I P ce sl := by
  obtain ⟨p, l, e, R, s, m, args, below, meth, c, Q, D, dA, b, tA, nq⟩ := κ
  obtain ⟨hx, hb, hr, hml, rfl, hown, hts, hK, hnm, hlk, hfr, hlo, hbs⟩ := cx
  intro H locs ls hP hz hS hl
  obtain ⟨rfl, -, -⟩ := hE
  refine W.widen hc hs ?_
  exact W.aret hx hb (hr.trans hrt) hrt2 (Or.inr ⟨_, rfl⟩) (fun t ht hW => ⟨⟨some (.ref k), sh, I, P, rfl, hq, by rw [ht]; exact hP, by rw [ht]; exact hz⟩, hS.F ht⟩) hS.2.2 hd
end
section
theorem zin_of {C : String} {T : u_T} {N : Nat} (ps : List Nat) (h : (u_ws C T N = ps.filterMap (fun i => tables_1[i]?)) ∧ (u_ws C T N).all goodWord = true) : ∀ w ∈ u_ws C T N, w ∈ wsG := by
  intro w hw
  have h1 := List.all_eq_true.mp h.2 w hw
  rw [h.1] at hw
  obtain ⟨i, -, hi⟩ := List.mem_filterMap.mp hw
  exact wsG_t hi h1
def zTy (t : Nat) : Nat → FieldType := match t with
  | 0 => tyX0
  | 1 => tyX1
  | 2 => tyX2
  | 3 => tyX3
  | 4 => tyX4
  | 5 => tyX5
  | 6 => tyX6
  | 7 => tyX7
  | 8 => tyX8
  | 9 => tyX9
  | _ => tyX10
def zv0 (κ : zX) (v : Value) : Value := zv κ.2.2.2.2.2.2.2.2.2.2.2.2.2.1 κ.2.2.2.2.2.2.2.2.2.2.2.2.2.2.1 v
def zv1 (b : Nat) (κ : zX) (v : Value) : Value := zv b κ.2.2.2.2.2.2.2.2.2.2.2.2.2.2.1 v
theorem zobjI : Cond.instanceMethod Lib.objectInit ∈ wsG := wsG_t (i := 21) (by decide +kernel) rfl
theorem zobjC : Cond.code Lib.objectInit ⟨#[0xb1]⟩ 1 none ∈ wsG := wsG_t (i := 22) (by decide +kernel) rfl
theorem zarr_int : Cond.arrayClass (newarray.typeOf .int) ∈ wsG := wsG_t (i := 36) (by decide +kernel) rfl
theorem zarr_boolean : Cond.arrayClass (newarray.typeOf .boolean) ∈ wsG := wsG_t (i := 62) (by decide +kernel) rfl
theorem zcatsum {b : Nat} {tA : Nat → Nat} : ∀ {st : List Value}, (∀ v ∈ st, zlive v = true) → ((st.map (zv b tA)).map fun v => v.category).sum = st.length
  | [], _ => rfl
  | v :: vs, h => by
    have h1 := zcatsum (b := b) (tA := tA) (st := vs) (fun w hw => h w (List.mem_cons_of_mem _ hw))
    simp only [List.map_cons, List.sum_cons, List.length_cons, h1, zv_cat (h v List.mem_cons_self)]
    omega
def zRoom (κ : zX) (mc ms : Nat) : Prop := κ.2.2.2.1.cells = mc ∧ κ.2.2.2.1.slots = ms
theorem zin_0 : ∀ w ∈ u_ws RX0 TX0 6, w ∈ wsG := zin_of [367, 369, 371, 373, 375, 377] (by decide +kernel)
theorem zin_1 : ∀ w ∈ u_ws RX1 TX1 6, w ∈ wsG := zin_of [49, 51, 53, 55, 57, 59] (by decide +kernel)
theorem zin_2 : ∀ w ∈ u_ws RX2 TX2 17, w ∈ wsG := zin_of [397, 399, 401, 403, 405, 407, 409, 411, 413, 415, 417, 419, 421, 423, 425, 427, 429] (by decide +kernel)
theorem zin_3 : ∀ w ∈ u_ws RX3 TX3 11, w ∈ wsG := zin_of [234, 236, 238, 240, 242, 244, 246, 248, 250, 252, 254] (by decide +kernel)
theorem zin_4 : ∀ w ∈ u_ws RX4 TX4 6, w ∈ wsG := zin_of [331, 333, 335, 337, 339, 341] (by decide +kernel)
theorem zin_5 : ∀ w ∈ u_ws RX5 TX5 2, w ∈ wsG := zin_of [31, 33] (by decide +kernel)
theorem zin_6 : ∀ w ∈ u_ws RX6 TX6 13, w ∈ wsG := zin_of [287, 289, 291, 293, 295, 297, 299, 301, 303, 305, 307, 309, 311] (by decide +kernel)
theorem zin_7 : ∀ w ∈ u_ws RX7 TX7 17, w ∈ wsG := zin_of [86, 88, 90, 92, 94, 96, 98, 100, 102, 104, 106, 108, 110, 112, 114, 116, 118] (by decide +kernel)
theorem zin_8 : ∀ w ∈ u_ws RX8 TX8 11, w ∈ wsG := zin_of [165, 167, 169, 171, 173, 175, 177, 179, 181, 183, 185] (by decide +kernel)
theorem zin_9 : ∀ w ∈ u_ws RX9 TX9 12, w ∈ wsG := zin_of [444, 446, 448, 450, 452, 454, 456, 458, 460, 462, 464, 466] (by decide +kernel)
theorem zin_10 : ∀ w ∈ u_ws RX10 TX10 87, w ∈ wsG := zin_of [1258, 1260, 1262, 1264, 1266, 1268, 1270, 1272, 1274, 1276, 1278, 1280, 1282, 1284, 1286, 1288, 1290, 1292, 1294, 1296, 1298, 1300, 1302, 1304, 1306, 1308, 1310, 1312, 1314, 1316, 1318, 1320, 1322, 1324, 1326, 1328, 1330, 1332, 1334, 1336, 1338, 1340, 1342, 1344, 1346, 1348, 1350, 1352, 1354, 1356, 1358, 1360, 1362, 1364, 1366, 1368, 1370, 1372, 1374, 1376, 1378, 1380, 1382, 1384, 1386, 1388, 1390, 1392, 1394, 1396, 1398, 1400, 1402, 1404, 1406, 1408, 1410, 1412, 1414, 1416, 1418, 1420, 1422, 1424, 1426, 1428, 1430] (by decide +kernel)
theorem zcls {t : Nat} {q : vw_C} (h : vwCl[t]? = some q) : (∀ w ∈ u_ws q.1 q.2.1 q.2.2, w ∈ wsG) ∧ (∀ k, k < q.2.2 → parseFieldDescriptor (q.2.1 k).2.2.1 = some (zTy t k)) ∧ (∀ a, a < q.2.2 → ∀ b, b < q.2.2 → a ≠ b → (q.2.1 a).2.1 ≠ (q.2.1 b).2.1) := by
  match t, h with
  | 0, h => cases h; exact ⟨zin_0, tyX0_ok, nmX0⟩
  | 1, h => cases h; exact ⟨zin_1, tyX1_ok, nmX1⟩
  | 2, h => cases h; exact ⟨zin_2, tyX2_ok, nmX2⟩
  | 3, h => cases h; exact ⟨zin_3, tyX3_ok, nmX3⟩
  | 4, h => cases h; exact ⟨zin_4, tyX4_ok, nmX4⟩
  | 5, h => cases h; exact ⟨zin_5, tyX5_ok, nmX5⟩
  | 6, h => cases h; exact ⟨zin_6, tyX6_ok, nmX6⟩
  | 7, h => cases h; exact ⟨zin_7, tyX7_ok, nmX7⟩
  | 8, h => cases h; exact ⟨zin_8, tyX8_ok, nmX8⟩
  | 9, h => cases h; exact ⟨zin_9, tyX9_ok, nmX9⟩
  | 10, h => cases h; exact ⟨zin_10, tyX10_ok, nmX10⟩
  | t + 11, h => simp [vwCl] at h
/-- field k of class t, by the pool index idx of class own -/
def zLk (own : String) (idx t k : Nat) : Prop := ∃ q : vw_C, vwCl[t]? = some q ∧ k < q.2.2 ∧ Cond.fieldLink own idx (q.2.1 k).1 (q.2.1 k).2.1 (q.2.1 k).2.2.1 ∈ wsG
theorem zfs {b t n k : Nat} {i : Nat → Int32} {r : Nat → Option Nat} (h : k < n) : ((List.range n).map (zF b t i r))[k]? = some (zF b t i r k) := by
  rw [List.getElem?_map, List.getElem?_range h]
  rfl
theorem zWo {dA : Nat → ClassId} {b : Nat} {sh : zSh} {I : zI} {P : zP} {o t n : Nat} (h : sh[o]? = some (t, n)) (ht : t < 11) : (zW dA b sh I P)[o]? = some (b + o, .inr (t, (List.range n).map (zF b t (I o) (P o)))) := by
  rw [zW_at h, zE, if_pos ht]
theorem zlt11 {t : Nat} {q : vw_C} (h : vwCl[t]? = some q) : t < 11 := (List.getElem?_eq_some_iff.mp h).1
theorem g_getI {κ : zX} {y : MethodName} {cc : ByteArray} {nL : Nat} {ret : Option FieldType} {fr lo : Nat} (cx : Cx y cc nL ret fr lo κ) {pc : Nat} {L st : List Value} {sh : zSh} {I : zI} {P : zP} {ce sl : Nat} {idx o t k n : Nat} {x : Int32} (hlk : zLk y.cls idx t k) (hsh : sh[o]? = some (t, n)) (hkn : k < n) (hrf : zRf t k = false) (hd : decode cc pc = .ok (.getfield idx, 3)) (hv : I o k = x) (kk : Gx κ (pc + 3) L (.int x :: st) sh I P ce sl) : Gx κ pc L (.ref o :: st) sh I P ce sl := by
  obtain ⟨p, l, e, R, s, m, args, below, meth, c, Q, D, dA, b, tA, nq⟩ := κ
  obtain ⟨hx, hb, hr, hml, rfl, hown, hts, hK, hnm, hlk0, hfr, hlo, hbs⟩ := cx
  intro H locs ls hP hz hS hl
  obtain ⟨q, hc, hk, hw⟩ := hlk
  refine va_get (C := q.1) (T := q.2.1) (N := q.2.2) hx hb hts (zcls hc).1 hown hK.1 hP o (zWo hsh (zlt11 hc)) hc k hk (hts _ hw) (fun _ h9 => h9) (zfs hkn) hd ?_
  rw [zF, if_neg (by rw [hrf]; decide), hv]
  exact kk H locs ls hP hz hS hl
theorem g_getR {κ : zX} {y : MethodName} {cc : ByteArray} {nL : Nat} {ret : Option FieldType} {fr lo : Nat} (cx : Cx y cc nL ret fr lo κ) {pc : Nat} {L st : List Value} {sh : zSh} {I : zI} {P : zP} {ce sl : Nat} {idx o t k n v : Nat} (hlk : zLk y.cls idx t k) (hsh : sh[o]? = some (t, n)) (hkn : k < n) (hrf : zRf t k = true) (hd : decode cc pc = .ok (.getfield idx, 3)) (hv : P o k = some v) (kk : Gx κ (pc + 3) L (.ref v :: st) sh I P ce sl) : Gx κ pc L (.ref o :: st) sh I P ce sl := by
  obtain ⟨p, l, e, R, s, m, args, below, meth, c, Q, D, dA, b, tA, nq⟩ := κ
  obtain ⟨hx, hb, hr, hml, rfl, hown, hts, hK, hnm, hlk0, hfr, hlo, hbs⟩ := cx
  intro H locs ls hP hz hS hl
  obtain ⟨q, hc, hk, hw⟩ := hlk
  refine va_get (C := q.1) (T := q.2.1) (N := q.2.2) hx hb hts (zcls hc).1 hown hK.1 hP o (zWo hsh (zlt11 hc)) hc k hk (hts _ hw) (fun _ h9 => h9) (zfs hkn) hd ?_
  rw [zF, if_pos hrf, hv]
  exact kk H locs ls hP hz hS hl
theorem zput0 {κ : zX} {y : MethodName} {cc : ByteArray} {nL : Nat} {ret : Option FieldType} {fr lo : Nat} (cx : Cx y cc nL ret fr lo κ) {pc : Nat} {L st : List Value} {sh : zSh} {I : zI} {P : zP} {ce sl : Nat} {idx o t k n : Nat} {v : Value} {I' : zI} {P' : zP} (hlk : zLk y.cls idx t k) (hsh : sh[o]? = some (t, n)) (hkn : k < n) (hn : narrow (zTy t k) (zv0 κ v) = zv0 κ v) (hfit : fits (zTy t k) (zv0 κ v) = true) (hfin : ∀ q : vw_C, vwCl[t]? = some q → (q.2.1 k).2.2.2 = false ∨ ((q.2.1 k).2.2.2 = true ∧ y.name = "<init>" ∧ (q.2.1 k).1 = y.cls)) (hI : ∀ a, a ≠ o → I' a = I a) (hP' : ∀ a, a ≠ o → P' a = P a) (hF : ∀ b j, zF b t (I' o) (P' o) j = if j = k then zv1 b κ v else zF b t (I o) (P o) j) (hd : decode cc pc = .ok (.putfield idx, 3)) (kk : Gx κ (pc + 3) L st sh I' P' ce sl) : Gx κ pc L (v :: .ref o :: st) sh I P ce sl := by
  obtain ⟨p, l, e, R, s, m, args, below, meth, c, Q, D, dA, b, tA, nq⟩ := κ
  obtain ⟨hx, hb, hr, hml, rfl, hown, hts, hK, hnm, hlk0, hfr, hlo, hbs⟩ := cx
  intro H locs ls hP hz hS hl
  obtain ⟨q, hc, hk, hw⟩ := hlk
  have hat := zWo (dA := dA) (b := b) (I := I) (P := P) hsh (zlt11 hc)
  have hap := va_apart (own := y.cls) hts (zcls hc).1 (zTy t) (zcls hc).2.1 (zcls hc).2.2 hK.1 hc
  obtain ⟨r, h1, cell, q1, q2, q3, q4⟩ := hP o _ hat
  cases h1.symm.trans hc
  obtain ⟨hS0, hfc, kC, hkC, hkind⟩ := hK.1.1 t _ hc
  obtain ⟨cf, kf, fi, f, hi, hsl⟩ := hS0 k hk
  have hst := (u_facts hfc hkC (u_lays hts (zcls hc).1 hk) hi).1
  have hnew : ∀ (H' : Heap) (cell' : Cell), H'[b + o]? = some cell' → cell'.cls = cell.cls → cell'.vm = cell.vm → (∀ j, j < q.2.2 → cell'.slots[D.2 t j]? = some (updV (vp_V ((List.range n).map (zF b t (I o) (P o)))) k (zv b tA v) j)) → H'.size = H.size → (∀ a : Nat, a ≠ b + o → H'[a]? = H[a]?) → va_P D vwCl (zW dA b sh I' P') H' := by
    intro H' cell' e1 e2 e3 e4 e5 e6
    rw [← zW_set (I := I) (P := P) hsh hI hP']
    refine hP.set zW_D hat ?_ e6
    rw [zE, if_pos (zlt11 hc)]
    refine ⟨_, hc, cell', e1, e2.trans q2, e3.trans q3, fun j hj => ?_⟩
    rw [e4 j hj]
    congr 1
    by_cases hjn : j < n
    · show _ = vp_V _ j
      rw [updV, vp_V, vp_V, List.getD_eq_getElem?_getD, List.getD_eq_getElem?_getD, zfs hjn, zfs hjn, hF]
      rfl
    · rw [updV, if_neg (by omega), vp_V, vp_V, List.getD_eq_getElem?_getD, List.getD_eq_getElem?_getD, List.getElem?_eq_none (by simp; omega), List.getElem?_eq_none (by simp; omega)]
  rcases hfin q hc with hfn | ⟨hfn, hini, hdecl⟩
  · have hlay := hts _ ((zcls hc).1 _ (u_in_lay hk))
    unfold u_lay at hlay
    rw [if_neg (by rw [hfn]; decide)] at hlay
    have h6 := u_store hfc hkC hkind hlay hi ((zcls hc).2.1 k hk) hn hfit
    refine W.putK hx hb (f := f) ⟨hown, hts _ hw, ⟨_, _, _, hi⟩, hst⟩ (by rw [q2]; exact h6) q1 q3 (by rw [hsl]; exact k2_hasslot (q4 k hk)) rfl rfl hd fun H' e1 e2 e3 => ?_
    rw [hsl] at e1 ⊢
    exact kk H' _ ls (hnew H' _ e1 rfl rfl (t_set q4 hap hk (zv b tA v)) e2 e3) (e2.trans hz) (hS.put e2 e3 (Nat.le_add_right b o)) hl
  · have hlay := hts _ ((zcls hc).1 _ (u_in_lay hk))
    unfold u_lay at hlay
    rw [if_pos hfn] at hlay
    have hcf : m.cls = cf := by
      obtain ⟨_, _, c', _, _, _, -, -, hf', -, -, -, hown2, -⟩ := Cond.laysFinal_spec hlay
      have e1 : c' = cf := by have := hi.symm.trans hf'; simp at this; exact this.1.symm
      rw [hdecl] at hown2
      rw [← e1]; exact Option.some.inj (hown.symm.trans hown2)
    have h6 := u_fits hfc hkC hkind (Or.inr hlay) hi ((zcls hc).2.1 k hk) hn hfit
    refine W.putFinK hx hb hown (hts _ hw) hi hst hcf (hnm.trans hini) (by rw [q2]; exact h6) q1 q3 (by rw [hsl]; exact k2_hasslot (q4 k hk)) rfl rfl hd fun H' e1 e2 e3 => ?_
    rw [hsl] at e1 ⊢
    exact kk H' _ ls (hnew H' _ e1 rfl rfl (t_set q4 hap hk (zv b tA v)) e2 e3) (e2.trans hz) (hS.put e2 e3 (Nat.le_add_right b o)) hl
theorem g_putI {κ : zX} {y : MethodName} {cc : ByteArray} {nL : Nat} {ret : Option FieldType} {fr lo : Nat} (cx : Cx y cc nL ret fr lo κ) {pc : Nat} {L st : List Value} {sh : zSh} {I : zI} {P : zP} {ce sl : Nat} {idx o t k n : Nat} {x : Int32} (hlk : zLk y.cls idx t k) (hsh : sh[o]? = some (t, n)) (hkn : k < n) (hrf : zRf t k = false) (hn : narrow (zTy t k) (.int x) = .int x) (hfit : fits (zTy t k) (.int x) = true) (hfin : ∀ q : vw_C, vwCl[t]? = some q → (q.2.1 k).2.2.2 = false ∨ ((q.2.1 k).2.2.2 = true ∧ y.name = "<init>" ∧ (q.2.1 k).1 = y.cls)) (hd : decode cc pc = .ok (.putfield idx, 3)) (kk : Gx κ (pc + 3) L st sh (zu I o k x) P ce sl) : Gx κ pc L (.int x :: .ref o :: st) sh I P ce sl := by
  refine zput0 cx (v := .int x) hlk hsh hkn hn hfit hfin (fun a ha => ?_) (fun a ha => rfl) (fun b j => ?_) hd kk
  · funext c
    exact zu_ne (fun q => ha q.1)
  · by_cases hj : j = k
    · subst hj
      rw [if_pos rfl, zF, if_neg (by rw [hrf]; decide), zu_same]
      rfl
    · rw [if_neg hj, zF, zF, zu_ne (fun q => hj q.2)]
theorem g_putR {κ : zX} {y : MethodName} {cc : ByteArray} {nL : Nat} {ret : Option FieldType} {fr lo : Nat} (cx : Cx y cc nL ret fr lo κ) {pc : Nat} {L st : List Value} {sh : zSh} {I : zI} {P : zP} {ce sl : Nat} {idx o t k n v : Nat} (hlk : zLk y.cls idx t k) (hsh : sh[o]? = some (t, n)) (hkn : k < n) (hrf : zRf t k = true) (hn : ∀ a : Nat, narrow (zTy t k) (.ref a) = .ref a) (hfit : ∀ a : Nat, fits (zTy t k) (.ref a) = true) (hfin : ∀ q : vw_C, vwCl[t]? = some q → (q.2.1 k).2.2.2 = false ∨ ((q.2.1 k).2.2.2 = true ∧ y.name = "<init>" ∧ (q.2.1 k).1 = y.cls)) (hd : decode cc pc = .ok (.putfield idx, 3)) (kk : Gx κ (pc + 3) L st sh I (zu P o k (some v)) ce sl) : Gx κ pc L (.ref v :: .ref o :: st) sh I P ce sl := by
  refine zput0 cx (v := .ref v) hlk hsh hkn (hn _) (hfit _) hfin (fun a ha => rfl) (fun a ha => ?_) (fun b j => ?_) hd kk
  · funext c
    exact zu_ne (fun q => ha q.1)
  · by_cases hj : j = k
    · subst hj
      rw [if_pos rfl, zF, if_pos hrf, zu_same]
      rfl
    · rw [if_neg hj, zF, zF, zu_ne (fun q => hj q.2)]
theorem g_iald {κ : zX} {y : MethodName} {cc : ByteArray} {nL : Nat} {ret : Option FieldType} {fr lo : Nat} (cx : Cx y cc nL ret fr lo κ) {pc : Nat} {L st : List Value} {sh : zSh} {I : zI} {P : zP} {ce sl : Nat} {a n : Nat} {i x : Int32} (hd : decode cc pc = .ok (.iaload, 1)) (hsh : sh[a]? = some (11, n)) (hin : vp_in i n) (hv : I a i.toNatClampNeg = x) (kk : Gx κ (pc + 1) L (.int x :: st) sh I P ce sl) : Gx κ pc L (.int i :: .ref a :: st) sh I P ce sl := by
  obtain ⟨p, l, e, R, s, m, args, below, meth, c, Q, D, dA, b, tA, nq⟩ := κ
  obtain ⟨hx, hb, hr, hml, rfl, hown, hts, hK, hnm, hlk0, hfr, hlo, hbs⟩ := cx
  intro H locs ls hP hz hS hl
  subst hv
  exact va_iald hx hb hK.1 hP a 0 (zW_at hsh) rfl hin hd (kk H locs ls hP hz hS hl)
theorem g_bald {κ : zX} {y : MethodName} {cc : ByteArray} {nL : Nat} {ret : Option FieldType} {fr lo : Nat} (cx : Cx y cc nL ret fr lo κ) {pc : Nat} {L st : List Value} {sh : zSh} {I : zI} {P : zP} {ce sl : Nat} {a n : Nat} {i x : Int32} (hd : decode cc pc = .ok (.baload, 1)) (hsh : sh[a]? = some (12, n)) (hin : vp_in i n) (hv : I a i.toNatClampNeg = x) (kk : Gx κ (pc + 1) L (.int x :: st) sh I P ce sl) : Gx κ pc L (.int i :: .ref a :: st) sh I P ce sl := by
  obtain ⟨p, l, e, R, s, m, args, below, meth, c, Q, D, dA, b, tA, nq⟩ := κ
  obtain ⟨hx, hb, hr, hml, rfl, hown, hts, hK, hnm, hlk0, hfr, hlo, hbs⟩ := cx
  intro H locs ls hP hz hS hl
  subst hv
  exact va_zald hx hb hK.1 hP a 1 (zW_at hsh) rfl hin hd (kk H locs ls hP hz hS hl)
theorem g_iast {κ : zX} {y : MethodName} {cc : ByteArray} {nL : Nat} {ret : Option FieldType} {fr lo : Nat} (cx : Cx y cc nL ret fr lo κ) {pc : Nat} {L st : List Value} {sh : zSh} {I : zI} {P : zP} {ce sl : Nat} {a n : Nat} {i x : Int32} (hd : decode cc pc = .ok (.iastore, 1)) (hsh : sh[a]? = some (11, n)) (hin : vp_in i n) (kk : Gx κ (pc + 1) L st sh (zu I a i.toNatClampNeg x) P ce sl) : Gx κ pc L (.int x :: .int i :: .ref a :: st) sh I P ce sl := by
  obtain ⟨p, l, e, R, s, m, args, below, meth, c, Q, D, dA, b, tA, nq⟩ := κ
  obtain ⟨hx, hb, hr, hml, rfl, hown, hts, hK, hnm, hlk0, hfr, hlo, hbs⟩ := cx
  intro H locs ls hP hz hS hl
  have hat := zW_at (dA := dA) (b := b) (I := I) (P := P) hsh
  refine W.iast hx hb (hP a _ hat) ((hK.1.2 0 _ rfl).1 n (fun j => .int (I a j))) (fun q => by cases q) (by show ¬ (i < 0 ∨ (arrV _ _ _).slots.size ≤ _); rw [arrV_size]; exact hin) rfl rfl hd fun H1 e z oq => ?_
  have hP1 : va_P D vwCl (zW dA b sh (zu I a i.toNatClampNeg x) P) H1 := by
    rw [← zW_set (I := I) (P := P) hsh (fun c hc => by funext j; exact zu_ne (fun q => hc q.1)) (fun c hc => rfl)]
    refine hP.set zW_D hat ?_ oq
    show H1[b + a]? = some (vp_cell (dA 11) (n, .inl (zu I a i.toNatClampNeg x a)))
    rw [e, vp_cell_i, vp_cell_i, arrV_store]
    congr 2
    funext q
    by_cases hq : q = i.toNatClampNeg
    · subst hq
      simp [updV, zu, vp_nar]
      try rfl
    · simp [updV, zu, hq]
  exact kk H1 _ ls hP1 (z.trans hz) (hS.put z oq (Nat.le_add_right b a)) hl
theorem g_bast {κ : zX} {y : MethodName} {cc : ByteArray} {nL : Nat} {ret : Option FieldType} {fr lo : Nat} (cx : Cx y cc nL ret fr lo κ) {pc : Nat} {L st : List Value} {sh : zSh} {I : zI} {P : zP} {ce sl : Nat} {a n : Nat} {i x : Int32} (hd : decode cc pc = .ok (.bastore, 1)) (hsh : sh[a]? = some (12, n)) (hin : vp_in i n) (kk : Gx κ (pc + 1) L st sh (zu I a i.toNatClampNeg (vp_nar .boolean x)) P ce sl) : Gx κ pc L (.int x :: .int i :: .ref a :: st) sh I P ce sl := by
  obtain ⟨p, l, e, R, s, m, args, below, meth, c, Q, D, dA, b, tA, nq⟩ := κ
  obtain ⟨hx, hb, hr, hml, rfl, hown, hts, hK, hnm, hlk0, hfr, hlo, hbs⟩ := cx
  intro H locs ls hP hz hS hl
  have hat := zW_at (dA := dA) (b := b) (I := I) (P := P) hsh
  refine W.zast hx hb (hP a _ hat) ((hK.1.2 1 _ rfl).1 n (fun j => .int (I a j))) (fun q => by cases q) (by show ¬ (i < 0 ∨ (arrV _ _ _).slots.size ≤ _); rw [arrV_size]; exact hin) rfl rfl hd fun H1 e z oq => ?_
  have hP1 : va_P D vwCl (zW dA b sh (zu I a i.toNatClampNeg (vp_nar .boolean x)) P) H1 := by
    rw [← zW_set (I := I) (P := P) hsh (fun c hc => by funext j; exact zu_ne (fun q => hc q.1)) (fun c hc => rfl)]
    refine hP.set zW_D hat ?_ oq
    show H1[b + a]? = some (vp_cell (dA 12) (n, .inl (zu I a i.toNatClampNeg (vp_nar .boolean x) a)))
    rw [e, vp_cell_i, vp_cell_i, arrV_store]
    congr 2
    funext q
    by_cases hq : q = i.toNatClampNeg
    · subst hq
      simp [updV, zu, vp_nar]
      try rfl
    · simp [updV, zu, hq]
  exact kk H1 _ ls hP1 (z.trans hz) (hS.put z oq (Nat.le_add_right b a)) hl
theorem g_alen {κ : zX} {y : MethodName} {cc : ByteArray} {nL : Nat} {ret : Option FieldType} {fr lo : Nat} (cx : Cx y cc nL ret fr lo κ) {pc : Nat} {L st : List Value} {sh : zSh} {I : zI} {P : zP} {ce sl : Nat} {a t n : Nat} (hsh : sh[a]? = some (t, n)) (ht : 11 ≤ t) (ht2 : t < 16) (hd : decode cc pc = .ok (.arraylength, 1)) (kk : Gx κ (pc + 1) L (.int (Int32.ofNat n) :: st) sh I P ce sl) : Gx κ pc L (.ref a :: st) sh I P ce sl := by
  obtain ⟨p, l, e, R, s, m, args, below, meth, c, Q, D, dA, b, tA, nq⟩ := κ
  obtain ⟨hx, hb, hr, hml, rfl, hown, hts, hK, hnm, hlk0, hfr, hlo, hbs⟩ := cx
  intro H locs ls hP hz hS hl
  have h : ∃ (x : vp_A) (ty : FieldType), zE dA b t n (I a) (P a) = .inl (dA t, x) ∧ x.1 = n ∧ (zTys dA)[t - 11]? = some (dA t, ty) := by
    rcases (show t = 11 ∨ t = 12 ∨ t = 13 ∨ t = 14 ∨ t = 15 by omega) with rfl | rfl | rfl | rfl | rfl <;> exact ⟨_, _, rfl, rfl, rfl⟩
  obtain ⟨x, ty, h1, h2, h3⟩ := h
  exact va_alen hx hb hK.1 hP a (t - 11) ((zW_at hsh).trans (by rw [h1])) h3 (by rw [h2]) hd (kk H locs ls hP hz hS hl)
theorem zWq {dA : Nat → ClassId} {b : Nat} {sh : zSh} {I : zI} {P : zP} {a t n : Nat} (h : sh[a]? = some (t, n)) (ht : 13 ≤ t) : (zW dA b sh I P)[a]? = some (b + a, .inl (dA t, n, .inr (.inr (.inr (.inr (fun j => zr b (P a j))))))) := by
  rw [zW_at h, zE, if_neg (by omega), if_neg (by omega)]
def zCn (t : Nat) : String := if t = 13 then "ProbeLoom$Frame" else if t = 14 then "ProbeLoom$Method" else "ProbeLoom$Tale"
theorem zTysq {dA : Nat → ClassId} {t : Nat} (h1 : 13 ≤ t) (h2 : t < 16) : (zTys dA)[t - 11]? = some (dA t, .object (zCn t)) := by
  rcases (show t = 13 ∨ t = 14 ∨ t = 15 by omega) with rfl | rfl | rfl <;> rfl
theorem g_aald {κ : zX} {y : MethodName} {cc : ByteArray} {nL : Nat} {ret : Option FieldType} {fr lo : Nat} (cx : Cx y cc nL ret fr lo κ) {pc : Nat} {L st : List Value} {sh : zSh} {I : zI} {P : zP} {ce sl : Nat} {a t n v : Nat} {i : Int32} (hsh : sh[a]? = some (t, n)) (ht : 13 ≤ t) (ht2 : t < 16) (hin : vp_in i n) (hv : P a i.toNatClampNeg = some v) (hd : decode cc pc = .ok (.aaload, 1)) (kk : Gx κ (pc + 1) L (.ref v :: st) sh I P ce sl) : Gx κ pc L (.int i :: .ref a :: st) sh I P ce sl := by
  obtain ⟨p, l, e, R, s, m, args, below, meth, c, Q, D, dA, b, tA, nq⟩ := κ
  obtain ⟨hx, hb, hr, hml, rfl, hown, hts, hK, hnm, hlk0, hfr, hlo, hbs⟩ := cx
  intro H locs ls hP hz hS hl
  refine va_aldq hx hb hK.1 hP a (t - 11) (zWq hsh ht) (zTysq ht ht2) hin hd ?_
  rw [hv]
  exact kk H locs ls hP hz hS hl
theorem g_aast {κ : zX} {y : MethodName} {cc : ByteArray} {nL : Nat} {ret : Option FieldType} {fr lo : Nat} (cx : Cx y cc nL ret fr lo κ) {pc : Nat} {L st : List Value} {sh : zSh} {I : zI} {P : zP} {ce sl : Nat} {a t n v ci nv : Nat} {q : vw_C} {i : Int32} (hsh : sh[a]? = some (t, n)) (ht : 13 ≤ t) (ht2 : t < 16) (hin : vp_in i n) (hv : sh[v]? = some (ci, nv)) (hc : vwCl[ci]? = some q) (hq : q.1 = zCn t) (hd : decode cc pc = .ok (.aastore, 1)) (kk : Gx κ (pc + 1) L st sh I (zu P a i.toNatClampNeg (some v)) ce sl) : Gx κ pc L (.ref v :: .int i :: .ref a :: st) sh I P ce sl := by
  obtain ⟨p, l, e, R, s, m, args, below, meth, c, Q, D, dA, b, tA, nq⟩ := κ
  obtain ⟨hx, hb, hr, hml, rfl, hown, hts, hK, hnm, hlk0, hfr, hlo, hbs⟩ := cx
  intro H locs ls hP hz hS hl
  have hat := zWq (dA := dA) (b := b) (I := I) (P := P) hsh ht
  have hlt : i.toNatClampNeg < n := Nat.not_le.mp fun q => hin (Or.inr q)
  have h0 : ¬ i < 0 := fun q => hin (Or.inl q)
  obtain ⟨r', hr', cellV, g1, g2, g3, -⟩ := hP v _ (zWo hv (zlt11 hc))
  have hcls := (hK.1.1 ci q hc).2
  obtain ⟨kA, comp, k1, k2, k3, -⟩ := (hK.1.2 (t - 11) _ (zTysq ht ht2)).2
  rw [← hq] at k3
  have hcomp : comp = D.1 ci := Option.some.inj (k3.symm.trans hcls.1)
  subst hcomp
  obtain ⟨kC, hkC, -⟩ := hcls.2
  refine W.aast hx hb (hP a _ hat) (fun q h => by cases h) (fun h => by cases h) k1 k2 rfl hkC ⟨h0, by show _ < (arrV _ _ _).slots.size; rw [arrV_size]; exact hlt⟩ g1 (fun q h => by rw [g3] at h; cases h) (by rw [g2]; exact hkC) (by rw [g2]; exact va_assign hcls) rfl rfl hd fun H1 e z oq => ?_
  have hP1 : va_P D vwCl (zW dA b sh I (zu P a i.toNatClampNeg (some v))) H1 := by
    rw [← zW_set (I := I) (P := P) hsh (fun c hc => rfl) (fun c hc => by funext j; exact zu_ne (fun q => hc q.1))]
    refine hP.set zW_D hat ?_ oq
    rw [zE, if_neg (by omega), if_neg (by omega)]
    show H1[b + a]? = some (vp_cell _ _)
    rw [e]
    rw [vp_cell_q, vp_cell_q, arrV_store]
    congr 2
    funext q
    by_cases hq : q = i.toNatClampNeg
    · subst hq
      simp [updV, zu, va_rf, zr]
    · simp [updV, zu, hq]
  exact kk H1 _ ls hP1 (z.trans hz) (hS.put z oq (Nat.le_add_right b a)) hl
theorem zW_push {dA : Nat → ClassId} {b : Nat} {sh : zSh} {I : zI} {P : zP} {t n : Nat} : zW dA b (sh ++ [(t, n)]) I P = zW dA b sh I P ++ [(b + sh.length, zE dA b t n (I sh.length) (P sh.length))] := by
  unfold zW
  rw [List.length_append, List.length_singleton, List.range_succ, List.map_append]
  congr 1
  · apply List.map_congr_left
    intro k hk
    have hk := List.mem_range.mp hk
    simp [List.getD_eq_getElem?_getD, List.getElem?_append_left hk]
  · simp [List.getD_eq_getElem?_getD]
theorem zgrow {D : va_G} {dA : Nat → ClassId} {b : Nat} {sh : zSh} {I : zI} {P : zP} {t n : Nat} {H H1 : Heap} {s : State} {locs : List Loc} (hP : va_P D vwCl (zW dA b sh I P) H) (hz : H.size = b + sh.length) (hS : va_S (fun q => b ≤ q) s.heap H locs) (z1 : H1.size = H.size + 1) (o1 : ∀ q, q < H.size → H1[q]? = H[q]?) (hat : va_at D vwCl (b + sh.length, zE dA b t n (I sh.length) (P sh.length)) H1) : va_P D vwCl (zW dA b (sh ++ [(t, n)]) I P) H1 ∧ H1.size = b + (sh ++ [(t, n)]).length ∧ va_S (fun q => b ≤ q) s.heap H1 locs := by
  have hk : ∀ (k : Nat) (x : Nat × va_E), (zW dA b sh I P)[k]? = some x → H1[x.1]? = H[x.1]? := fun k x hx => o1 x.1 ((hP k x hx).lt)
  refine ⟨?_, by rw [z1, hz, List.length_append, List.length_singleton]; omega, Nat.le_trans hS.1 (by omega), fun x h1 h2 => (o1 x (Nat.lt_of_lt_of_le h1 hS.1)).trans (hS.2.1 x h1 h2), hS.2.2⟩
  rw [zW_push]
  refine (hP.kept hk).app (fun k x hx => ?_)
  have hz2 : k < 1 := (List.getElem?_eq_some_iff.mp hx).1
  rw [show k = 0 by omega] at hx
  cases hx
  exact hat
theorem g_new {κ : zX} {y : MethodName} {cc : ByteArray} {nL : Nat} {ret : Option FieldType} {fr lo : Nat} (cx : Cx y cc nL ret fr lo κ) {pc : Nat} {L st : List Value} {sh : zSh} {I : zI} {P : zP} {ce sl : Nat} {idx t : Nat} {q : vw_C} (hc : vwCl[t]? = some q) (hcl : Cond.classLink y.cls idx q.1 ∈ wsG) (hinst : Cond.instantiable q.1 q.2.2 ∈ wsG) (hini : Cond.initialized q.1 ∈ wsG) (hI : ∀ j, I sh.length j = 0) (hPn : ∀ j, P sh.length j = none) (hdf : ∀ j, j < q.2.2 → defaultValue (zTy t j) = if zRf t j = true then .null else .int 0) (hrc : ∀ mc ms, zRoom κ mc ms → ce + 1 ≤ mc ∧ sl + q.2.2 ≤ ms) (hd : decode cc pc = .ok (.new idx, 3)) (kk : Gx κ (pc + 3) L (.ref sh.length :: st) (sh ++ [(t, q.2.2)]) I P (ce + 1) (sl + q.2.2)) : Gx κ pc L st sh I P ce sl := by
  obtain ⟨p, l, e, R, s, m, args, below, meth, c, Q, D, dA, b, tA, nq⟩ := κ
  obtain ⟨hx, hb, hr, hml, rfl, hown, hts, hK, hnm, hlk0, hfr, hlo, hbs⟩ := cx
  intro H locs ls hP hz hS hl
  have hKn := hK.1.1 t _ hc
  have hroom := hrc R.cells R.slots ⟨rfl, rfl⟩
  refine W.newcK hx hb hown (hts _ hcl) (hts _ hinst) (hts _ hini) rfl hd hroom.1 hroom.2 hKn.2.1 rfl fun H1 kC hkC e1 z1 o1 => ?_
  have hat : va_at D vwCl (b + sh.length, zE dA b t q.2.2 (I sh.length) (P sh.length)) H1 := by
    rw [zE, if_pos (zlt11 hc)]
    refine ⟨_, hc, (u_born (zTy t) hts (zcls hc).1 hKn hkC (by rw [← hz]; exact e1) (zcls hc).2.1).to (fun j hj => ?_)⟩
    rw [hdf j hj, vp_V, List.getD_eq_getElem?_getD, zfs hj, zF, hI, hPn]
    rfl
  obtain ⟨g1, g2, g3⟩ := zgrow hP hz hS z1 o1 hat
  rw [show (Value.ref (Array.size H)) = zv b tA (.ref sh.length) by rw [hz]; rfl]
  exact kk H1 locs ls g1 g2 g3 hl
theorem g_newI {κ : zX} {y : MethodName} {cc : ByteArray} {nL : Nat} {ret : Option FieldType} {fr lo : Nat} (cx : Cx y cc nL ret fr lo κ) {pc : Nat} {L st : List Value} {sh : zSh} {I : zI} {P : zP} {ce sl : Nat} {x : Int32} {N : Nat} (hn : ¬ x < 0) (hN : x.toNatClampNeg = N) (hb2 : N ≤ 1000000) (hI : ∀ j, I sh.length j = 0) (hrc : ∀ mc ms, zRoom κ mc ms → ce + 1 ≤ mc ∧ sl + N ≤ ms) (hd : decode cc pc = .ok (.newarray .int, 2)) (kk : Gx κ (pc + 2) L (.ref sh.length :: st) (sh ++ [(11, N)]) I P (ce + 1) (sl + N)) : Gx κ pc L (.int x :: st) sh I P ce sl := by
  obtain ⟨p, l, e, R, s, m, args, below, meth, c, Q, D, dA, b, tA, nq⟩ := κ
  obtain ⟨hx, hb, hr, hml, rfl, hown, hts, hK, hnm, hlk0, hfr, hlo, hbs⟩ := cx
  intro H locs ls hP hz hS hl
  have hroom := hrc R.cells R.slots ⟨rfl, rfl⟩
  refine va_newaK hx hb (hts _ (zarr_int)) rfl hd rfl hn hN (by simp only [newarray.typeOf, componentBytes]; omega) hroom.1 hroom.2 rfl fun H1 cA e1 z1 o1 hAr hNm => ?_
  have hcA : cA = dA 11 := by
    have h2 := (hK.1.2 0 _ rfl).2
    exact Option.some.inj (hNm.symm.trans h2)
  have hat : va_at D vwCl (b + sh.length, zE dA b 11 N (I sh.length) (P sh.length)) H1 := by
    show H1[b + sh.length]? = some (vp_cell (dA 11) (N, .inl (I sh.length)))
    rw [← hz, e1, vp_cell_i, hcA, show I sh.length = fun _ => 0 from funext hI]
    rfl
  obtain ⟨g1, g2, g3⟩ := zgrow hP hz hS z1 o1 hat
  rw [show (Value.ref (Array.size H)) = zv b tA (.ref sh.length) by rw [hz]; rfl]
  exact kk H1 locs ls g1 g2 g3 hl
theorem g_newZ {κ : zX} {y : MethodName} {cc : ByteArray} {nL : Nat} {ret : Option FieldType} {fr lo : Nat} (cx : Cx y cc nL ret fr lo κ) {pc : Nat} {L st : List Value} {sh : zSh} {I : zI} {P : zP} {ce sl : Nat} {x : Int32} {N : Nat} (hn : ¬ x < 0) (hN : x.toNatClampNeg = N) (hb2 : N ≤ 1000000) (hI : ∀ j, I sh.length j = 0) (hrc : ∀ mc ms, zRoom κ mc ms → ce + 1 ≤ mc ∧ sl + N ≤ ms) (hd : decode cc pc = .ok (.newarray .boolean, 2)) (kk : Gx κ (pc + 2) L (.ref sh.length :: st) (sh ++ [(12, N)]) I P (ce + 1) (sl + N)) : Gx κ pc L (.int x :: st) sh I P ce sl := by
  obtain ⟨p, l, e, R, s, m, args, below, meth, c, Q, D, dA, b, tA, nq⟩ := κ
  obtain ⟨hx, hb, hr, hml, rfl, hown, hts, hK, hnm, hlk0, hfr, hlo, hbs⟩ := cx
  intro H locs ls hP hz hS hl
  have hroom := hrc R.cells R.slots ⟨rfl, rfl⟩
  refine va_newaK hx hb (hts _ (zarr_boolean)) rfl hd rfl hn hN (by simp only [newarray.typeOf, componentBytes]; omega) hroom.1 hroom.2 rfl fun H1 cA e1 z1 o1 hAr hNm => ?_
  have hcA : cA = dA 12 := by
    have h2 := (hK.1.2 1 _ rfl).2
    exact Option.some.inj (hNm.symm.trans h2)
  have hat : va_at D vwCl (b + sh.length, zE dA b 12 N (I sh.length) (P sh.length)) H1 := by
    show H1[b + sh.length]? = some (vp_cell (dA 12) (N, .inl (I sh.length)))
    rw [← hz, e1, vp_cell_i, hcA, show I sh.length = fun _ => 0 from funext hI]
    rfl
  obtain ⟨g1, g2, g3⟩ := zgrow hP hz hS z1 o1 hat
  rw [show (Value.ref (Array.size H)) = zv b tA (.ref sh.length) by rw [hz]; rfl]
  exact kk H1 locs ls g1 g2 g3 hl
theorem g_newR {κ : zX} {y : MethodName} {cc : ByteArray} {nL : Nat} {ret : Option FieldType} {fr lo : Nat} (cx : Cx y cc nL ret fr lo κ) {pc : Nat} {L st : List Value} {sh : zSh} {I : zI} {P : zP} {ce sl : Nat} {idx t : Nat} {x : Int32} {N : Nat} (ht : 13 ≤ t) (ht2 : t < 16) (hcl : Cond.classLink y.cls idx (zCn t) ∈ wsG) (hn : ¬ x < 0) (hN : x.toNatClampNeg = N) (hb2 : N ≤ 1000000) (hPn : ∀ j, P sh.length j = none) (hrc : ∀ mc ms, zRoom κ mc ms → ce + 1 ≤ mc ∧ sl + N ≤ ms) (hd : decode cc pc = .ok (.anewarray idx, 3)) (kk : Gx κ (pc + 3) L (.ref sh.length :: st) (sh ++ [(t, N)]) I P (ce + 1) (sl + N)) : Gx κ pc L (.int x :: st) sh I P ce sl := by
  obtain ⟨p, l, e, R, s, m, args, below, meth, c, Q, D, dA, b, tA, nq⟩ := κ
  obtain ⟨hx, hb, hr, hml, rfl, hown, hts, hK, hnm, hlk0, hfr, hlo, hbs⟩ := cx
  intro H locs ls hP hz hS hl
  have hroom := hrc R.cells R.slots ⟨rfl, rfl⟩
  subst hN
  have hover : va_AO (zCn t) s := hK.2.2.1 _ (by rcases (show t = 13 ∨ t = 14 ∨ t = 15 by omega) with rfl | rfl | rfl <;> decide)
  refine W.anew hx hb hown (hts _ hcl) (va_AO.use hover) rfl hd rfl hn (by omega) hroom.1 hroom.2 fun cA kA comp f1 f2 f3 f4 => ?_
  generalize hH1 : H.push ({ cls := cA, slots := Array.replicate x.toNatClampNeg .null, vm := .none } : Cell) = H1
  have z1 : H1.size = H.size + 1 := by rw [← hH1, Array.size_push]
  have e1 : H1[H.size]? = some (arrV cA x.toNatClampNeg (fun _ => .null)) := by rw [← hH1, Array.getElem?_push_size, ← arrV_new]
  have o1 : ∀ q : Nat, q < H.size → H1[q]? = H[q]? := fun q hq => by rw [← hH1, Array.getElem?_push, if_neg (Nat.ne_of_lt hq)]
  have hcA : cA = dA t := by
    obtain ⟨_, _, _, _, _, k4⟩ := (hK.1.2 (t - 11) _ (zTysq ht ht2)).2
    exact Option.some.inj (f1.symm.trans k4)
  have hat : va_at D vwCl (b + sh.length, zE dA b t x.toNatClampNeg (I sh.length) (P sh.length)) H1 := by
    rw [zE, if_neg (by omega), if_neg (by omega)]
    show H1[b + sh.length]? = some (vp_cell (dA t) (x.toNatClampNeg, .inr (.inr (.inr (.inr (fun j => zr b (P sh.length j)))))))
    rw [← hz, e1, vp_cell_q, hcA, show P sh.length = fun _ => none from funext hPn]
    rfl
  obtain ⟨g1, g2, g3⟩ := zgrow hP hz hS z1 o1 hat
  rw [show (Value.ref (Array.size H)) = zv b tA (.ref sh.length) by rw [hz]; rfl]
  exact kk H1 locs ls g1 g2 g3 hl
theorem g_objInit {κ : zX} {y : MethodName} {cc : ByteArray} {nL : Nat} {ret : Option FieldType} {fr lo : Nat} (cx : Cx y cc nL ret fr lo κ) {pc : Nat} {L st : List Value} {sh : zSh} {I : zI} {P : zP} {ce sl : Nat} {idx o : Nat} (hlink : Cond.methodLink y.cls idx Lib.objectInit ∈ wsG) (hst : st.length ≤ 6) (hlv : ∀ v ∈ st, zlive v = true) (hfr1 : 1 ≤ fr) (hlo1 : 20 ≤ lo) (hd : decode cc pc = .ok (.invokespecial idx, 3)) (kk : Gx κ (pc + 3) L st sh I P ce sl) : Gx κ pc L (.ref o :: st) sh I P ce sl := by
  obtain ⟨p, l, e, R, s, m, args, below, meth, c, Q, D, dA, b, tA, nq⟩ := κ
  obtain ⟨hx, hb, hr, hml, rfl, hown, hts, hK, hnm, hlk0, hfr, hlo, hbs⟩ := cx
  intro H locs ls hP hz hS hl
  refine W.objInit hx hb hown (hts _ hlink) (hts _ zobjI) (hts _ zobjC) rfl (by rw [hml]; exact hl.1) rfl hd (by omega) ?_ (kk H locs ls hP hz hS hl)
  have h1 : ((st.map (zv b tA)).map fun v => v.category).sum = st.length := zcatsum hlv
  show 2 * (F0 m pc ls _).monitorRoom + ((st.map (zv b tA)).map fun v => v.category).sum + 12 ≤ R.locals
  rw [h1]
  have h2 : (F0 m pc ls (List.map (zv b tA) (Value.ref o :: st))).monitorRoom = 0 := rfl
  omega
theorem g_gets {κ : zX} {y : MethodName} {cc : ByteArray} {nL : Nat} {ret : Option FieldType} {fr lo : Nat} (cx : Cx y cc nL ret fr lo κ) {pc : Nat} {L st : List Value} {sh : zSh} {I : zI} {P : zP} {ce sl : Nat} {idx i : Nat} {q : String × String × List Int32} (hi : zStat[i]? = some q) (hlink : Cond.fieldLink y.cls idx q.1 q.2.1 "[I" ∈ wsG) (hd : decode cc pc = .ok (.getstatic idx, 3)) (kk : Gx κ (pc + 3) L (.retAddr i :: st) sh I P ce sl) : Gx κ pc L st sh I P ce sl := by
  obtain ⟨p, l, e, R, s, m, args, below, meth, c, Q, D, dA, b, tA, nq⟩ := κ
  obtain ⟨hx, hb, hr, hml, rfl, hown, hts, hK, hnm, hlk0, hfr, hlo, hbs⟩ := cx
  intro H locs ls hP hz hS hl
  exact va_gets hx hb (hK.2.2.2 i q hi).1 hS hown (hts _ hlink) (fun _ h9 => h9) hd (kk H locs ls hP hz hS hl)
theorem g_tld {κ : zX} {y : MethodName} {cc : ByteArray} {nL : Nat} {ret : Option FieldType} {fr lo : Nat} (cx : Cx y cc nL ret fr lo κ) {pc : Nat} {L st : List Value} {sh : zSh} {I : zI} {P : zP} {ce sl : Nat} {i : Nat} {q : String × String × List Int32} {j : Int32} (hi : zStat[i]? = some q) (hin : vp_in j q.2.2.length) (hd : decode cc pc = .ok (.iaload, 1)) (kk : Gx κ (pc + 1) L (.int (q.2.2.getD j.toNatClampNeg 0) :: st) sh I P ce sl) : Gx κ pc L (.int j :: .retAddr i :: st) sh I P ce sl := by
  obtain ⟨p, l, e, R, s, m, args, below, meth, c, Q, D, dA, b, tA, nq⟩ := κ
  obtain ⟨hx, hb, hr, hml, rfl, hown, hts, hK, hnm, hlk0, hfr, hlo, hbs⟩ := cx
  intro H locs ls hP hz hS hl
  exact va_ti hx hb (hK.2.2.2 i q hi).2 hS hin rfl hd (kk H locs ls hP hz hS hl)
theorem g_tlen {κ : zX} {y : MethodName} {cc : ByteArray} {nL : Nat} {ret : Option FieldType} {fr lo : Nat} (cx : Cx y cc nL ret fr lo κ) {pc : Nat} {L st : List Value} {sh : zSh} {I : zI} {P : zP} {ce sl : Nat} {i : Nat} {q : String × String × List Int32} (hi : zStat[i]? = some q) (hd : decode cc pc = .ok (.arraylength, 1)) (kk : Gx κ (pc + 1) L (.int (Int32.ofNat q.2.2.length) :: st) sh I P ce sl) : Gx κ pc L (.retAddr i :: st) sh I P ce sl := by
  obtain ⟨p, l, e, R, s, m, args, below, meth, c, Q, D, dA, b, tA, nq⟩ := κ
  obtain ⟨hx, hb, hr, hml, rfl, hown, hts, hK, hnm, hlk0, hfr, hlo, hbs⟩ := cx
  intro H locs ls hP hz hS hl
  exact va_tlen hx hb (hK.2.2.2 i q hi).2 hS rfl hd (kk H locs ls hP hz hS hl)
end
section
/-- what the tables say of a method, and of a link to it -/
def zMc (y : MethodName) (cc : ByteArray) (nL : Nat) (ret : Option FieldType) (n : Nat) : Prop := Cond.code y cc nL ret ∈ wsG ∧ Cond.initialized y.cls ∈ wsG ∧ (y.cls ≠ "java/lang/invoke/MethodHandle" ∧ y.cls ≠ "java/lang/invoke/VarHandle" ∧ (parseMethodDescriptor y.desc).map (fun d => d.parameters.length) = some n)
def zMv (y : MethodName) (cc : ByteArray) (nL : Nat) (ret : Option FieldType) (n : Nat) : Prop := zMc y cc nL ret n ∧ Cond.instanceMethod y ∈ wsG ∧ Cond.selects y.cls y y ∈ wsG
def zMs (y : MethodName) (cc : ByteArray) (nL : Nat) (ret : Option FieldType) (n : Nat) : Prop := zMc y cc nL ret n ∧ Cond.static y ∈ wsG
def zMi (y : MethodName) (cc : ByteArray) (nL : Nat) (n : Nat) : Prop := zMc y cc nL none n ∧ Cond.instanceMethod y ∈ wsG ∧ y.name = "<init>"
def zMl (own : String) (idx : Nat) (y : MethodName) : Prop := Cond.methodLink own idx y ∈ wsG ∨ ∃ host, (own, idx, y, host) ∈ zNest
theorem zblind {D : va_G} {dA : Nat → ClassId} {b : Nat} {tA : Nat → Nat} {As : List Value} {sh : zSh} {I : zI} {P : zP} : FrameBlind (zPc D dA b tA As sh I P) := by
  intro a U g mk h
  obtain ⟨h1, h2, h3, h4⟩ := h
  exact ⟨h1, zK_calling h2, h3, h4⟩
theorem zpre {D : va_G} {dA : Nat → ClassId} {b : Nat} {tA : Nat → Nat} {As : List Value} {sh : zSh} {I : zI} {P : zP} {s U : State} {H : Heap} {locs : List Loc} (hK : zK D dA b tA s) (hP : va_P D vwCl (zW dA b sh I P) H) (hz : H.size = b + sh.length) (hS : va_S (fun q => b ≤ q) s.heap H locs) (hU : U.heap = H) (hW : s.WarmedH U.vm) : zPc D dA b tA As sh I P (As.map (zv b tA)).toArray U :=
  ⟨rfl, zK_move hK hW (fun a h1 h2 => by rw [hU]; exact hS.2.1 a h1 h2), by rw [hU]; exact hP, by rw [hU]; exact hz⟩
section ZCALL
variable {p : Program} {l : Launch} {e : Env} {R : Room} {s : State} {m : MethodId} {args : Array Value} {below : List Frame} {meth : Method} {c : Code} {H : Heap} {locs : List Loc} {ce sl : Nat} {Q : State → Prop} {D : va_G} {dA : Nat → ClassId} {b : Nat} {tA : Nat → Nat}
theorem zback {pc mc ms : Nat} {ls : Array Slot} {st0 rest : List Value} {a : Array Value} {Qf : Option Value → zSh → zI → zP → Prop} (hr : va_Run p l e R s m args below meth c H locs ce sl mc ms (F0 m pc ls st0) rest (zQc D dA b tA Qf a) (fun q => b ≤ q)) (hS : va_S (fun q => b ≤ q) s.heap H locs)
    (kk : ∀ (r : Option Value) (sh : zSh) (I : zI) (P : zP) (H1 : Heap) (locs1 : List Loc), Qf r sh I P → va_P D vwCl (zW dA b sh I P) H1 → H1.size = b + sh.length → va_S (fun q => b ≤ q) s.heap H1 locs1 → W p l e R s m args below meth c H1 locs1 (ce + mc) (sl + ms) Q (F0 m (pc + 3) ls ((r.map (zv b tA)).toList ++ rest))) : W p l e R s m args below meth c H locs ce sl Q (F0 m pc ls st0) := by
  intro T hT X
  obtain ⟨v, st₀, t, T', L, h0, X', hL, e1, e2, ⟨⟨r, sh, I, P, hv, hq, hP, hz⟩, hF⟩, st⟩ := hr T hT X
  cases hv
  obtain ⟨hF1, hF2⟩ := hF
  rw [h0] at hF1 hF2
  obtain ⟨t2, a1, b1⟩ := kk r sh I P T'.heap (locs ++ L) hq (by rw [e1]; exact hP) (by rw [e1]; exact hz)
    ⟨Nat.le_trans hS.1 (by rw [e1]; exact hF1), fun q h1 h2 => by rw [e1, hF2 q (Nat.lt_of_lt_of_le h1 hS.1) h2]; exact hS.2.1 q h1 h2, fun q hq => by
      rcases List.mem_append.mp hq with h | h
      · exact hS.2.2 q h
      · exact hL q h⟩ T' rfl X'
  exact ⟨t2, st t2 a1, b1⟩
end ZCALL
theorem g_callV {κ : zX} {y : MethodName} {cc : ByteArray} {nL : Nat} {ret : Option FieldType} {fr lo : Nat} (cx : Cx y cc nL ret fr lo κ) {pc : Nat} {L st : List Value} {sh : zSh} {I : zI} {P : zP} {ce sl : Nat} {idx fr2 lo2 mc ms nL2 : Nat} {y2 : MethodName} {cc2 : ByteArray} {ret2 : Option FieldType} {Qf : Option Value → zSh → zI → zP → Prop} {o t n : Nat} {q : vw_C} (As rest : List Value) (hE : Ev y2 cc2 nL2 ret2 fr2 lo2 mc ms (.ref o :: As) sh I P Qf) (hM : zMv y2 cc2 nL2 ret2 As.length) (hl2 : zMl y.cls idx y2) (hstk : st = As.reverse ++ .ref o :: rest) (hsh : sh[o]? = some (t, n)) (hc : vwCl[t]? = some q) (hq : q.1 = y2.cls) (hlv : ∀ v ∈ rest, zlive v = true) (hst : rest.length ≤ 8) (hf1 : fr2 + 1 ≤ fr) (hf2 : 8 + (nL2 + 11) + lo2 ≤ lo) (hrc : ∀ mc9 ms9, zRoom κ mc9 ms9 → ce + mc ≤ mc9 ∧ sl + ms ≤ ms9) (hd : decode cc pc = .ok (.invokevirtual idx, 3)) (kk : ∀ (r : Option Value) (sh2 : zSh) (I2 : zI) (P2 : zP), Qf r sh2 I2 P2 → Gx κ (pc + 3) L (r.toList ++ rest) sh2 I2 P2 (ce + mc) (sl + ms)) : Gx κ pc L st sh I P ce sl := by
  obtain ⟨p, l, e, R, s, m, args, below, meth, c, Q, D, dA, b, tA, nq⟩ := κ
  obtain ⟨hx, hb, hr, hml, rfl, hown, hts, hK, hnm, hlk0, hfr, hlo, hbs⟩ := cx
  intro H locs ls hP hz hS hl
  have hroom := hrc R.cells R.slots ⟨rfl, rfl⟩
  have hcat : 2 * (F0 m pc ls (st.map (zv b tA))).monitorRoom + ((rest.map (zv b tA)).map fun v => v.category).sum ≤ 8 := by
    rw [zcatsum hlv]
    have h2 : (F0 m pc ls (List.map (zv b tA) st)).monitorRoom = 0 := rfl
    omega
  have hend : ∀ (r : Option Value) (sh2 : zSh) (I2 : zI) (P2 : zP) (H1 : Heap) (locs1 : List Loc), Qf r sh2 I2 P2 → va_P D vwCl (zW dA b sh2 I2 P2) H1 → H1.size = b + sh2.length → va_S (fun q => b ≤ q) s.heap H1 locs1 → W p l e R s m args below meth c H1 locs1 (ce + mc) (sl + ms) Q (F0 m (pc + 3) ls ((r.map (zv b tA)).toList ++ rest.map (zv b tA))) := by
    intro r sh2 I2 P2 H1 locs1 hq hP1 hz1 hS1
    have h3 := kk r sh2 I2 P2 hq H1 locs1 ls hP1 hz1 hS1 hl
    rw [List.map_append] at h3
    cases r <;> exact h3
  have hstack : (F0 m pc ls (st.map (zv b tA))).stack = (As.map (zv b tA)).reverse ++ .ref (b + o) :: rest.map (zv b tA) := by
    show st.map (zv b tA) = _
    rw [hstk, List.map_append, List.map_reverse]
    rfl
  have hrecv := va_recv hK.1 hP hc (zWo hsh (zlt11 hc))
  rw [hq] at hrecv
  obtain ⟨⟨hm1, hm2, hm3⟩, hm4, hm5⟩ := hM
  rcases hl2 with hl2 | ⟨host, hl2⟩
  · refine zback (va_runV (As := As.map (zv b tA)) (rest := rest.map (zv b tA)) ⟨hx, hb, hml, hown, hts⟩ (hE l D dA b tA) ⟨callB_of As.length hts (wsG_in hm1) rfl rfl rfl (hts _ hm2) (hts _ hl2) hm3 ⟨Nat.le_trans hf1 hfr, Nat.le_trans hf2 hlo⟩, hts _ hm4, hts _ hm5⟩ ⟨zblind, hrecv, fun U hU hW => zpre hK hP hz hS hU hW⟩ rfl (by simp) hl.1 hstack hcat hd hroom) hS hend
  · refine zback (va_runVN (As := As.map (zv b tA)) (rest := rest.map (zv b tA)) ⟨hx, hb, hml, hown, hts⟩ (hE l D dA b tA) ⟨va_cnB As.length hts (wsG_in hm1) rfl rfl rfl (hK.2.1 _ hl2) (hts _ hm2) hm3 ⟨Nat.le_trans hf1 hfr, Nat.le_trans hf2 hlo⟩, hts _ hm4, hts _ hm5⟩ ⟨zblind, hrecv, fun U hU hW => zpre hK hP hz hS hU hW⟩ rfl (by simp) hl.1 hstack hcat hd hroom) hS hend
theorem g_callS {κ : zX} {y : MethodName} {cc : ByteArray} {nL : Nat} {ret : Option FieldType} {fr lo : Nat} (cx : Cx y cc nL ret fr lo κ) {pc : Nat} {L st : List Value} {sh : zSh} {I : zI} {P : zP} {ce sl : Nat} {idx fr2 lo2 mc ms nL2 : Nat} {y2 : MethodName} {cc2 : ByteArray} {ret2 : Option FieldType} {Qf : Option Value → zSh → zI → zP → Prop} (As rest : List Value) (hE : Ev y2 cc2 nL2 ret2 fr2 lo2 mc ms As sh I P Qf) (hM : zMs y2 cc2 nL2 ret2 As.length) (hl2 : zMl y.cls idx y2) (hstk : st = As.reverse ++ rest) (hlv : ∀ v ∈ rest, zlive v = true) (hst : rest.length ≤ 8) (hf1 : fr2 + 1 ≤ fr) (hf2 : 8 + (nL2 + 11) + lo2 ≤ lo) (hrc : ∀ mc9 ms9, zRoom κ mc9 ms9 → ce + mc ≤ mc9 ∧ sl + ms ≤ ms9) (hd : decode cc pc = .ok (.invokestatic idx, 3)) (kk : ∀ (r : Option Value) (sh2 : zSh) (I2 : zI) (P2 : zP), Qf r sh2 I2 P2 → Gx κ (pc + 3) L (r.toList ++ rest) sh2 I2 P2 (ce + mc) (sl + ms)) : Gx κ pc L st sh I P ce sl := by
  obtain ⟨p, l, e, R, s, m, args, below, meth, c, Q, D, dA, b, tA, nq⟩ := κ
  obtain ⟨hx, hb, hr, hml, rfl, hown, hts, hK, hnm, hlk0, hfr, hlo, hbs⟩ := cx
  intro H locs ls hP hz hS hl
  have hroom := hrc R.cells R.slots ⟨rfl, rfl⟩
  have hcat : 2 * (F0 m pc ls (st.map (zv b tA))).monitorRoom + ((rest.map (zv b tA)).map fun v => v.category).sum ≤ 8 := by
    rw [zcatsum hlv]
    have h2 : (F0 m pc ls (List.map (zv b tA) st)).monitorRoom = 0 := rfl
    omega
  have hend : ∀ (r : Option Value) (sh2 : zSh) (I2 : zI) (P2 : zP) (H1 : Heap) (locs1 : List Loc), Qf r sh2 I2 P2 → va_P D vwCl (zW dA b sh2 I2 P2) H1 → H1.size = b + sh2.length → va_S (fun q => b ≤ q) s.heap H1 locs1 → W p l e R s m args below meth c H1 locs1 (ce + mc) (sl + ms) Q (F0 m (pc + 3) ls ((r.map (zv b tA)).toList ++ rest.map (zv b tA))) := by
    intro r sh2 I2 P2 H1 locs1 hq hP1 hz1 hS1
    have h3 := kk r sh2 I2 P2 hq H1 locs1 ls hP1 hz1 hS1 hl
    rw [List.map_append] at h3
    cases r <;> exact h3
  have hstack : (F0 m pc ls (st.map (zv b tA))).stack = (As.map (zv b tA)).reverse ++ rest.map (zv b tA) := by
    show st.map (zv b tA) = _
    rw [hstk, List.map_append, List.map_reverse]
  obtain ⟨⟨hm1, hm2, hm3⟩, hm4⟩ := hM
  rcases hl2 with hl2 | ⟨host, hl2⟩
  · refine zback (va_runS (As := As.map (zv b tA)) (rest := rest.map (zv b tA)) ⟨hx, hb, hml, hown, hts⟩ (hE l D dA b tA) ⟨callB_of As.length hts (wsG_in hm1) rfl rfl rfl (hts _ hm2) (hts _ hl2) hm3 ⟨Nat.le_trans hf1 hfr, Nat.le_trans hf2 hlo⟩, hts _ hm4⟩ ⟨zblind, fun U hU hW => zpre hK hP hz hS hU hW⟩ rfl (by simp) hl.1 hstack hcat hd hroom) hS hend
  · refine zback (va_runSN (As := As.map (zv b tA)) (rest := rest.map (zv b tA)) ⟨hx, hb, hml, hown, hts⟩ (hE l D dA b tA) ⟨va_cnB As.length hts (wsG_in hm1) rfl rfl rfl (hK.2.1 _ hl2) (hts _ hm2) hm3 ⟨Nat.le_trans hf1 hfr, Nat.le_trans hf2 hlo⟩, hts _ hm4, trivial⟩ ⟨zblind, fun U hU hW => zpre hK hP hz hS hU hW⟩ rfl (by simp) hl.1 hstack hcat hd hroom) hS hend
theorem g_callI {κ : zX} {y : MethodName} {cc : ByteArray} {nL : Nat} {ret : Option FieldType} {fr lo : Nat} (cx : Cx y cc nL ret fr lo κ) {pc : Nat} {L st : List Value} {sh : zSh} {I : zI} {P : zP} {ce sl : Nat} {idx fr2 lo2 mc ms nL2 : Nat} {y2 : MethodName} {cc2 : ByteArray} {Qf : Option Value → zSh → zI → zP → Prop} {o : Nat} (As rest : List Value) (hE : Ev y2 cc2 nL2 none fr2 lo2 mc ms (.ref o :: As) sh I P Qf) (hM : zMi y2 cc2 nL2 As.length) (hl2 : zMl y.cls idx y2) (hstk : st = As.reverse ++ .ref o :: rest) (hlv : ∀ v ∈ rest, zlive v = true) (hst : rest.length ≤ 8) (hf1 : fr2 + 1 ≤ fr) (hf2 : 8 + (nL2 + 11) + lo2 ≤ lo) (hrc : ∀ mc9 ms9, zRoom κ mc9 ms9 → ce + mc ≤ mc9 ∧ sl + ms ≤ ms9) (hd : decode cc pc = .ok (.invokespecial idx, 3)) (kk : ∀ (r : Option Value) (sh2 : zSh) (I2 : zI) (P2 : zP), Qf r sh2 I2 P2 → Gx κ (pc + 3) L (r.toList ++ rest) sh2 I2 P2 (ce + mc) (sl + ms)) : Gx κ pc L st sh I P ce sl := by
  obtain ⟨p, l, e, R, s, m, args, below, meth, c, Q, D, dA, b, tA, nq⟩ := κ
  obtain ⟨hx, hb, hr, hml, rfl, hown, hts, hK, hnm, hlk0, hfr, hlo, hbs⟩ := cx
  intro H locs ls hP hz hS hl
  have hroom := hrc R.cells R.slots ⟨rfl, rfl⟩
  have hcat : 2 * (F0 m pc ls (st.map (zv b tA))).monitorRoom + ((rest.map (zv b tA)).map fun v => v.category).sum ≤ 8 := by
    rw [zcatsum hlv]
    have h2 : (F0 m pc ls (List.map (zv b tA) st)).monitorRoom = 0 := rfl
    omega
  have hend : ∀ (r : Option Value) (sh2 : zSh) (I2 : zI) (P2 : zP) (H1 : Heap) (locs1 : List Loc), Qf r sh2 I2 P2 → va_P D vwCl (zW dA b sh2 I2 P2) H1 → H1.size = b + sh2.length → va_S (fun q => b ≤ q) s.heap H1 locs1 → W p l e R s m args below meth c H1 locs1 (ce + mc) (sl + ms) Q (F0 m (pc + 3) ls ((r.map (zv b tA)).toList ++ rest.map (zv b tA))) := by
    intro r sh2 I2 P2 H1 locs1 hq hP1 hz1 hS1
    have h3 := kk r sh2 I2 P2 hq H1 locs1 ls hP1 hz1 hS1 hl
    rw [List.map_append] at h3
    cases r <;> exact h3
  have hstack : (F0 m pc ls (st.map (zv b tA))).stack = (As.map (zv b tA)).reverse ++ .ref (b + o) :: rest.map (zv b tA) := by
    show st.map (zv b tA) = _
    rw [hstk, List.map_append, List.map_reverse]
    rfl
  obtain ⟨⟨hm1, hm2, hm3⟩, hm4, hm5⟩ := hM
  rcases hl2 with hl2 | ⟨host, hl2⟩
  · refine zback (va_runI (As := As.map (zv b tA)) (rest := rest.map (zv b tA)) ⟨hx, hb, hml, hown, hts⟩ (hE l D dA b tA) ⟨callB_of As.length hts (wsG_in hm1) rfl rfl rfl (hts _ hm2) (hts _ hl2) hm3 ⟨Nat.le_trans hf1 hfr, Nat.le_trans hf2 hlo⟩, hm5, hts _ hm4⟩ ⟨zblind, fun U hU hW => zpre hK hP hz hS hU hW⟩ rfl (by simp) hl.1 hstack hcat hd hroom) hS hend
  · refine zback (va_runIN (As := As.map (zv b tA)) (rest := rest.map (zv b tA)) ⟨hx, hb, hml, hown, hts⟩ (hE l D dA b tA) ⟨va_cnB As.length hts (wsG_in hm1) rfl rfl rfl (hK.2.1 _ hl2) (hts _ hm2) hm3 ⟨Nat.le_trans hf1 hfr, Nat.le_trans hf2 hlo⟩, hm5, hts _ hm4⟩ ⟨zblind, fun U hU hW => zpre hK hP hz hS hU hW⟩ rfl (by simp) hl.1 hstack hcat hd hroom) hS hend
end
section
/-- the method returns r and leaves the ints I2 and the references P2; nothing is made -/
def zQF (r : Option Value) (sh2 : zSh) (I2 : zI) (P2 : zP) : Option Value → zSh → zI → zP → Prop := fun r' sh' I' P' => r' = r ∧ sh' = sh2 ∧ I' = I2 ∧ P' = P2
abbrev EvF (y : MethodName) (cc : ByteArray) (nL : Nat) (ret : Option FieldType) (fr lo : Nat) (As : List Value) (sh : zSh) (I : zI) (P : zP) (r : Option Value) (I2 : zI) (P2 : zP) : Prop := Ev y cc nL ret fr lo 0 0 As sh I P (zQF r sh I2 P2)
theorem zallL {l : List Value} (h : l.all zlive = true) : ∀ v ∈ l, zlive v = true := fun v hv => List.all_eq_true.mp h v hv
theorem Ev.start {y : MethodName} {cc : ByteArray} {nL : Nat} {ret : Option FieldType} {fr lo mc ms : Nat} {As : List Value} {sh : zSh} {I : zI} {P : zP} {Qf : Option Value → zSh → zI → zP → Prop} (L : List Value) (hy : plainName y.cls = true) (hA : As.all zlive = true) (hn : As.length ≤ nL) (hL : As ++ List.replicate (nL - As.length) (.float 0) = L)
    (h : ∀ κ : zX, Cx y cc nL ret fr lo κ → zEnd Qf mc ms κ → Gx κ 0 L [] sh I P 0 0) : Ev y cc nL ret fr lo mc ms As sh I P Qf := Ev.intro hy (zallL hA) hn (fun κ cx hE => by rw [hL]; exact h κ cx hE)
theorem Gx.L {κ : zX} {pc : Nat} {L st : List Value} {sh : zSh} {I : zI} {P : zP} {ce sl : Nat} (L2 : List Value) (h : L = L2) (kk : Gx κ pc L2 st sh I P ce sl) : Gx κ pc L st sh I P ce sl := by rw [h]; exact kk
theorem Gx.I {κ : zX} {pc : Nat} {L st : List Value} {sh : zSh} {I : zI} {P : zP} {ce sl : Nat} (I2 : zI) (h : I = I2) (kk : Gx κ pc L st sh I2 P ce sl) : Gx κ pc L st sh I P ce sl := by rw [h]; exact kk
theorem Gx.P {κ : zX} {pc : Nat} {L st : List Value} {sh : zSh} {I : zI} {P : zP} {ce sl : Nat} (P2 : zP) (h : P = P2) (kk : Gx κ pc L st sh I P2 ce sl) : Gx κ pc L st sh I P ce sl := by rw [h]; exact kk
theorem Gx.top {κ : zX} {pc : Nat} {L st : List Value} {sh : zSh} {I : zI} {P : zP} {ce sl : Nat} {x : Int32} (z : Int32) (h : x = z) (kk : Gx κ pc L (.int z :: st) sh I P ce sl) : Gx κ pc L (.int x :: st) sh I P ce sl := by rw [h]; exact kk
theorem g_cSi {κ : zX} {y : MethodName} {cc : ByteArray} {nL : Nat} {ret : Option FieldType} {fr lo : Nat} (cx : Cx y cc nL ret fr lo κ) {pc : Nat} {L st : List Value} {sh : zSh} {I : zI} {P : zP} {idx fr2 lo2 nL2 : Nat} {y2 : MethodName} {cc2 : ByteArray} {ret2 : Option FieldType} {I2 : zI} {P2 : zP} {v : Value} (As rest : List Value) (hE : EvF y2 cc2 nL2 ret2 fr2 lo2 As sh I P (some v) I2 P2) (hM : zMs y2 cc2 nL2 ret2 As.length) (hl2 : zMl y.cls idx y2) (hd : decode cc pc = .ok (.invokestatic idx, 3)) (hstk : st = As.reverse ++ rest) (hlv : rest.all zlive = true) (hst : rest.length ≤ 8) (hf1 : fr2 + 1 ≤ fr) (hf2 : 8 + (nL2 + 11) + lo2 ≤ lo) (kk : Gx κ (pc + 3) L (v :: rest) sh I2 P2 0 0) : Gx κ pc L st sh I P 0 0 :=
  g_callS cx As rest hE hM hl2 hstk (zallL hlv) hst hf1 hf2 (fun _ _ _ => ⟨Nat.zero_le _, Nat.zero_le _⟩) hd (fun r sh2 I2 P2 hq => by
    obtain ⟨rfl, rfl, rfl, rfl⟩ := hq
    exact kk)
theorem g_cVi {κ : zX} {y : MethodName} {cc : ByteArray} {nL : Nat} {ret : Option FieldType} {fr lo : Nat} (cx : Cx y cc nL ret fr lo κ) {pc : Nat} {L st : List Value} {sh : zSh} {I : zI} {P : zP} {idx fr2 lo2 nL2 : Nat} {y2 : MethodName} {cc2 : ByteArray} {ret2 : Option FieldType} {I2 : zI} {P2 : zP} {v : Value} {o t n : Nat} {q : vw_C} (As rest : List Value) (hE : EvF y2 cc2 nL2 ret2 fr2 lo2 (.ref o :: As) sh I P (some v) I2 P2) (hM : zMv y2 cc2 nL2 ret2 As.length) (hl2 : zMl y.cls idx y2) (hsh : sh[o]? = some (t, n)) (hc : vwCl[t]? = some q) (hq : q.1 = y2.cls) (hd : decode cc pc = .ok (.invokevirtual idx, 3)) (hstk : st = As.reverse ++ .ref o :: rest) (hlv : rest.all zlive = true) (hst : rest.length ≤ 8) (hf1 : fr2 + 1 ≤ fr) (hf2 : 8 + (nL2 + 11) + lo2 ≤ lo) (kk : Gx κ (pc + 3) L (v :: rest) sh I2 P2 0 0) : Gx κ pc L st sh I P 0 0 :=
  g_callV cx As rest hE hM hl2 hstk hsh hc hq (zallL hlv) hst hf1 hf2 (fun _ _ _ => ⟨Nat.zero_le _, Nat.zero_le _⟩) hd (fun r sh2 I2 P2 hq => by
    obtain ⟨rfl, rfl, rfl, rfl⟩ := hq
    exact kk)
theorem g_cSv {κ : zX} {y : MethodName} {cc : ByteArray} {nL : Nat} {ret : Option FieldType} {fr lo : Nat} (cx : Cx y cc nL ret fr lo κ) {pc : Nat} {L st : List Value} {sh : zSh} {I : zI} {P : zP} {idx fr2 lo2 nL2 : Nat} {y2 : MethodName} {cc2 : ByteArray} {ret2 : Option FieldType} {I2 : zI} {P2 : zP} (As rest : List Value) (hE : EvF y2 cc2 nL2 ret2 fr2 lo2 As sh I P none I2 P2) (hM : zMs y2 cc2 nL2 ret2 As.length) (hl2 : zMl y.cls idx y2) (hd : decode cc pc = .ok (.invokestatic idx, 3)) (hstk : st = As.reverse ++ rest) (hlv : rest.all zlive = true) (hst : rest.length ≤ 8) (hf1 : fr2 + 1 ≤ fr) (hf2 : 8 + (nL2 + 11) + lo2 ≤ lo) (kk : Gx κ (pc + 3) L rest sh I2 P2 0 0) : Gx κ pc L st sh I P 0 0 :=
  g_callS cx As rest hE hM hl2 hstk (zallL hlv) hst hf1 hf2 (fun _ _ _ => ⟨Nat.zero_le _, Nat.zero_le _⟩) hd (fun r sh2 I2 P2 hq => by
    obtain ⟨rfl, rfl, rfl, rfl⟩ := hq
    exact kk)
theorem g_cVv {κ : zX} {y : MethodName} {cc : ByteArray} {nL : Nat} {ret : Option FieldType} {fr lo : Nat} (cx : Cx y cc nL ret fr lo κ) {pc : Nat} {L st : List Value} {sh : zSh} {I : zI} {P : zP} {idx fr2 lo2 nL2 : Nat} {y2 : MethodName} {cc2 : ByteArray} {ret2 : Option FieldType} {I2 : zI} {P2 : zP} {o t n : Nat} {q : vw_C} (As rest : List Value) (hE : EvF y2 cc2 nL2 ret2 fr2 lo2 (.ref o :: As) sh I P none I2 P2) (hM : zMv y2 cc2 nL2 ret2 As.length) (hl2 : zMl y.cls idx y2) (hsh : sh[o]? = some (t, n)) (hc : vwCl[t]? = some q) (hq : q.1 = y2.cls) (hd : decode cc pc = .ok (.invokevirtual idx, 3)) (hstk : st = As.reverse ++ .ref o :: rest) (hlv : rest.all zlive = true) (hst : rest.length ≤ 8) (hf1 : fr2 + 1 ≤ fr) (hf2 : 8 + (nL2 + 11) + lo2 ≤ lo) (kk : Gx κ (pc + 3) L rest sh I2 P2 0 0) : Gx κ pc L st sh I P 0 0 :=
  g_callV cx As rest hE hM hl2 hstk hsh hc hq (zallL hlv) hst hf1 hf2 (fun _ _ _ => ⟨Nat.zero_le _, Nat.zero_le _⟩) hd (fun r sh2 I2 P2 hq => by
    obtain ⟨rfl, rfl, rfl, rfl⟩ := hq
    exact kk)
theorem g_iretF {κ : zX} {y : MethodName} {cc : ByteArray} {nL : Nat} {ret : Option FieldType} {fr lo : Nat} (cx : Cx y cc nL ret fr lo κ) {pc : Nat} {L : List Value} {sh : zSh} {I : zI} {P : zP} {r v : Int32} {sh2 : zSh} {I2 : zI} {P2 : zP} {ty : FieldType} (hE : zEnd (zQF (some (.int r)) sh2 I2 P2) 0 0 κ) (hd : decode cc pc = .ok (.ireturn, 1)) (hrt : ret = some ty) (hn : narrow ty (.int v) = .int v) (h1 : v = r) (h2 : sh = sh2) (h3 : I = I2) (h4 : P = P2) : Gx κ pc L [.int v] sh I P 0 0 :=
  g_iret cx hE (Nat.le_refl _) (Nat.le_refl _) hrt hn hd ⟨by rw [h1], h2, h3, h4⟩
theorem g_vretF {κ : zX} {y : MethodName} {cc : ByteArray} {nL : Nat} {ret : Option FieldType} {fr lo : Nat} (cx : Cx y cc nL ret fr lo κ) {pc : Nat} {L : List Value} {sh : zSh} {I : zI} {P : zP} {sh2 : zSh} {I2 : zI} {P2 : zP} (hE : zEnd (zQF none sh2 I2 P2) 0 0 κ) (hd : decode cc pc = .ok (.return_, 1)) (hrt : ret = none) (h2 : sh = sh2) (h3 : I = I2) (h4 : P = P2) : Gx κ pc L [] sh I P 0 0 :=
  g_vret cx hE (Nat.le_refl _) (Nat.le_refl _) hrt hd ⟨rfl, h2, h3, h4⟩
theorem g_aretF {κ : zX} {y : MethodName} {cc : ByteArray} {nL : Nat} {ret : Option FieldType} {fr lo : Nat} (cx : Cx y cc nL ret fr lo κ) {pc : Nat} {L : List Value} {sh : zSh} {I : zI} {P : zP} {k r : Nat} {sh2 : zSh} {I2 : zI} {P2 : zP} {rt : FieldType} (hE : zEnd (zQF (some (.ref r)) sh2 I2 P2) 0 0 κ) (hd : decode cc pc = .ok (.areturn, 1)) (hrt : ret = some rt) (hrt2 : (∃ n, rt = .object n) ∨ ∃ t, rt = .array t) (h1 : k = r) (h2 : sh = sh2) (h3 : I = I2) (h4 : P = P2) : Gx κ pc L [.ref k] sh I P 0 0 :=
  g_aret cx hE (Nat.le_refl _) (Nat.le_refl _) hrt hrt2 hd ⟨by rw [h1], h2, h3, h4⟩
theorem g_pI {κ : zX} {y : MethodName} {cc : ByteArray} {nL : Nat} {ret : Option FieldType} {fr lo : Nat} (cx : Cx y cc nL ret fr lo κ) {pc : Nat} {L st : List Value} {sh : zSh} {I : zI} {P : zP} {ce sl : Nat} {idx o t k n : Nat} {x : Int32} (hlk : zLk y.cls idx t k) (hsh : sh[o]? = some (t, n)) (hkn : k < n) (hrf : zRf t k = false) (hd : decode cc pc = .ok (.putfield idx, 3)) (hfin : ∀ q : vw_C, vwCl[t]? = some q → (q.2.1 k).2.2.2 = false) (hn : narrow (zTy t k) (.int x) = .int x) (hfit : fits (zTy t k) (.int x) = true) (kk : Gx κ (pc + 3) L st sh (zu I o k x) P ce sl) : Gx κ pc L (.int x :: .ref o :: st) sh I P ce sl :=
  g_putI cx hlk hsh hkn hrf hn hfit (fun q h => Or.inl (hfin q h)) hd kk
theorem g_pR {κ : zX} {y : MethodName} {cc : ByteArray} {nL : Nat} {ret : Option FieldType} {fr lo : Nat} (cx : Cx y cc nL ret fr lo κ) {pc : Nat} {L st : List Value} {sh : zSh} {I : zI} {P : zP} {ce sl : Nat} {idx o t k n v : Nat} (hlk : zLk y.cls idx t k) (hsh : sh[o]? = some (t, n)) (hkn : k < n) (hrf : zRf t k = true) (hd : decode cc pc = .ok (.putfield idx, 3)) (hfin : ∀ q : vw_C, vwCl[t]? = some q → (q.2.1 k).2.2.2 = false) (hn : ∀ a : Nat, narrow (zTy t k) (.ref a) = .ref a) (hfit : ∀ a : Nat, fits (zTy t k) (.ref a) = true) (kk : Gx κ (pc + 3) L st sh I (zu P o k (some v)) ce sl) : Gx κ pc L (.ref v :: .ref o :: st) sh I P ce sl :=
  g_putR cx hlk hsh hkn hrf hn hfit (fun q h => Or.inl (hfin q h)) hd kk
theorem g_pIF {κ : zX} {y : MethodName} {cc : ByteArray} {nL : Nat} {ret : Option FieldType} {fr lo : Nat} (cx : Cx y cc nL ret fr lo κ) {pc : Nat} {L st : List Value} {sh : zSh} {I : zI} {P : zP} {ce sl : Nat} {idx o t k n : Nat} {x : Int32} (hlk : zLk y.cls idx t k) (hsh : sh[o]? = some (t, n)) (hkn : k < n) (hrf : zRf t k = false) (hd : decode cc pc = .ok (.putfield idx, 3)) (hini : y.name = "<init>") (hfin : ∀ q : vw_C, vwCl[t]? = some q → (q.2.1 k).2.2.2 = true ∧ (q.2.1 k).1 = y.cls) (hn : narrow (zTy t k) (.int x) = .int x) (hfit : fits (zTy t k) (.int x) = true) (kk : Gx κ (pc + 3) L st sh (zu I o k x) P ce sl) : Gx κ pc L (.int x :: .ref o :: st) sh I P ce sl :=
  g_putI cx hlk hsh hkn hrf hn hfit (fun q h => Or.inr ⟨(hfin q h).1, hini, (hfin q h).2⟩) hd kk
theorem g_pRF {κ : zX} {y : MethodName} {cc : ByteArray} {nL : Nat} {ret : Option FieldType} {fr lo : Nat} (cx : Cx y cc nL ret fr lo κ) {pc : Nat} {L st : List Value} {sh : zSh} {I : zI} {P : zP} {ce sl : Nat} {idx o t k n v : Nat} (hlk : zLk y.cls idx t k) (hsh : sh[o]? = some (t, n)) (hkn : k < n) (hrf : zRf t k = true) (hd : decode cc pc = .ok (.putfield idx, 3)) (hini : y.name = "<init>") (hfin : ∀ q : vw_C, vwCl[t]? = some q → (q.2.1 k).2.2.2 = true ∧ (q.2.1 k).1 = y.cls) (hn : ∀ a : Nat, narrow (zTy t k) (.ref a) = .ref a) (hfit : ∀ a : Nat, fits (zTy t k) (.ref a) = true) (kk : Gx κ (pc + 3) L st sh I (zu P o k (some v)) ce sl) : Gx κ pc L (.ref v :: .ref o :: st) sh I P ce sl :=
  g_putR cx hlk hsh hkn hrf hn hfit (fun q h => Or.inr ⟨(hfin q h).1, hini, (hfin q h).2⟩) hd kk
theorem vin_of {x : Int32} {n : Nat} (h0 : ¬ x < 0) (h1 : ¬ nI n ≤ x) (hn : n < 2 ^ 31) : vp_in x n := by
  obtain ⟨j, hj, rfl, -⟩ := pk_mu h0 h1 hn
  exact vp_in_nI hj hn
theorem vin_lit {x : Int32} {n j : Nat} (h : x = nI j) (hj : j < n) (hn : n < 2 ^ 31) : vp_in x n := by
  rw [h]
  exact vp_in_nI hj hn
end
