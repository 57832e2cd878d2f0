-- ===== PART A: goes FIRST, ahead of the names: the tables' words, and 'selects' of the private methods out of them =====
/-- a private method of a class that the tables say can be made, by its rows of tables_1 -/
def lw_okq (q : MethodName × Nat) : Prop := (q.1.cls ≠ "java/lang/invoke/MethodHandle" ∧ q.1.cls ≠ "java/lang/invoke/VarHandle") ∧ Cond.instantiable q.1.cls q.2 ∈ tables_1 ∧ Cond.privateMethod q.1 ∈ tables_1 ∧ Cond.instanceMethod q.1 ∈ tables_1
theorem lw_p0 : lw_okq (⟨"CycleSynthesis$Translator", "statements", "()Z"⟩, 7) := ⟨⟨by decide +kernel, by decide +kernel⟩, List.mem_of_getElem? (i := 49) (by decide +kernel), List.mem_of_getElem? (i := 390) (by decide +kernel), List.mem_of_getElem? (i := 391) (by decide +kernel)⟩
theorem lw_p1 : lw_okq (⟨"CycleSynthesis$Translator", "statement", "()Z"⟩, 7) := ⟨⟨by decide +kernel, by decide +kernel⟩, List.mem_of_getElem? (i := 49) (by decide +kernel), List.mem_of_getElem? (i := 405) (by decide +kernel), List.mem_of_getElem? (i := 406) (by decide +kernel)⟩
theorem lw_p2 : lw_okq (⟨"CycleSynthesis$Reader", "lettersHere", "()I"⟩, 2) := ⟨⟨by decide +kernel, by decide +kernel⟩, List.mem_of_getElem? (i := 55) (by decide +kernel), List.mem_of_getElem? (i := 414) (by decide +kernel), List.mem_of_getElem? (i := 415) (by decide +kernel)⟩
theorem lw_p3 : lw_okq (⟨"CycleSynthesis$Translator", "ifStatement", "()Z"⟩, 7) := ⟨⟨by decide +kernel, by decide +kernel⟩, List.mem_of_getElem? (i := 49) (by decide +kernel), List.mem_of_getElem? (i := 466) (by decide +kernel), List.mem_of_getElem? (i := 467) (by decide +kernel)⟩
theorem lw_p4 : lw_okq (⟨"CycleSynthesis$Translator", "choice", "(II)Z"⟩, 7) := ⟨⟨by decide +kernel, by decide +kernel⟩, List.mem_of_getElem? (i := 49) (by decide +kernel), List.mem_of_getElem? (i := 475) (by decide +kernel), List.mem_of_getElem? (i := 476) (by decide +kernel)⟩
theorem lw_p5 : lw_okq (⟨"CycleSynthesis$Translator", "expression", "()I"⟩, 7) := ⟨⟨by decide +kernel, by decide +kernel⟩, List.mem_of_getElem? (i := 49) (by decide +kernel), List.mem_of_getElem? (i := 491) (by decide +kernel), List.mem_of_getElem? (i := 492) (by decide +kernel)⟩
theorem lw_p6 : lw_okq (⟨"CycleSynthesis$Translator", "sum", "()I"⟩, 7) := ⟨⟨by decide +kernel, by decide +kernel⟩, List.mem_of_getElem? (i := 49) (by decide +kernel), List.mem_of_getElem? (i := 495) (by decide +kernel), List.mem_of_getElem? (i := 496) (by decide +kernel)⟩
theorem lw_p7 : lw_okq (⟨"CycleSynthesis$Translator", "term", "()I"⟩, 7) := ⟨⟨by decide +kernel, by decide +kernel⟩, List.mem_of_getElem? (i := 49) (by decide +kernel), List.mem_of_getElem? (i := 499) (by decide +kernel), List.mem_of_getElem? (i := 500) (by decide +kernel)⟩
theorem lw_p8 : lw_okq (⟨"CycleSynthesis$Translator", "factor", "()I"⟩, 7) := ⟨⟨by decide +kernel, by decide +kernel⟩, List.mem_of_getElem? (i := 49) (by decide +kernel), List.mem_of_getElem? (i := 503) (by decide +kernel), List.mem_of_getElem? (i := 504) (by decide +kernel)⟩
theorem lw_p9 : lw_okq (⟨"CycleSynthesis$Translator", "enclosed", "(II)I"⟩, 7) := ⟨⟨by decide +kernel, by decide +kernel⟩, List.mem_of_getElem? (i := 49) (by decide +kernel), List.mem_of_getElem? (i := 508) (by decide +kernel), List.mem_of_getElem? (i := 509) (by decide +kernel)⟩
theorem lw_p10 : lw_okq (⟨"CycleSynthesis$Translator", "meets", "(I)Z"⟩, 7) := ⟨⟨by decide +kernel, by decide +kernel⟩, List.mem_of_getElem? (i := 49) (by decide +kernel), List.mem_of_getElem? (i := 512) (by decide +kernel), List.mem_of_getElem? (i := 513) (by decide +kernel)⟩
theorem lw_p11 : lw_okq (⟨"CycleSynthesis$Translator", "refuse", "(II)Z"⟩, 7) := ⟨⟨by decide +kernel, by decide +kernel⟩, List.mem_of_getElem? (i := 49) (by decide +kernel), List.mem_of_getElem? (i := 516) (by decide +kernel), List.mem_of_getElem? (i := 517) (by decide +kernel)⟩
theorem lw_p12 : lw_okq (⟨"CycleSynthesis$Translator", "refuseHere", "(I)Z"⟩, 7) := ⟨⟨by decide +kernel, by decide +kernel⟩, List.mem_of_getElem? (i := 49) (by decide +kernel), List.mem_of_getElem? (i := 520) (by decide +kernel), List.mem_of_getElem? (i := 521) (by decide +kernel)⟩
theorem lw_p13 : lw_okq (⟨"CycleSynthesis$Translator", "passes", "(I)Z"⟩, 7) := ⟨⟨by decide +kernel, by decide +kernel⟩, List.mem_of_getElem? (i := 49) (by decide +kernel), List.mem_of_getElem? (i := 524) (by decide +kernel), List.mem_of_getElem? (i := 525) (by decide +kernel)⟩
theorem lw_p14 : lw_okq (⟨"CycleSynthesis$Translator", "number", "()I"⟩, 7) := ⟨⟨by decide +kernel, by decide +kernel⟩, List.mem_of_getElem? (i := 49) (by decide +kernel), List.mem_of_getElem? (i := 535) (by decide +kernel), List.mem_of_getElem? (i := 536) (by decide +kernel)⟩
theorem lw_p15 : lw_okq (⟨"CycleSynthesis$Translator", "read", "()I"⟩, 7) := ⟨⟨by decide +kernel, by decide +kernel⟩, List.mem_of_getElem? (i := 49) (by decide +kernel), List.mem_of_getElem? (i := 551) (by decide +kernel), List.mem_of_getElem? (i := 552) (by decide +kernel)⟩
def lw_privs_1 : List (MethodName × Nat) := [(⟨"CycleSynthesis$Translator", "statements", "()Z"⟩, 7), (⟨"CycleSynthesis$Translator", "statement", "()Z"⟩, 7), (⟨"CycleSynthesis$Reader", "lettersHere", "()I"⟩, 2), (⟨"CycleSynthesis$Translator", "ifStatement", "()Z"⟩, 7), (⟨"CycleSynthesis$Translator", "choice", "(II)Z"⟩, 7), (⟨"CycleSynthesis$Translator", "expression", "()I"⟩, 7), (⟨"CycleSynthesis$Translator", "sum", "()I"⟩, 7), (⟨"CycleSynthesis$Translator", "term", "()I"⟩, 7), (⟨"CycleSynthesis$Translator", "factor", "()I"⟩, 7), (⟨"CycleSynthesis$Translator", "enclosed", "(II)I"⟩, 7), (⟨"CycleSynthesis$Translator", "meets", "(I)Z"⟩, 7), (⟨"CycleSynthesis$Translator", "refuse", "(II)Z"⟩, 7), (⟨"CycleSynthesis$Translator", "refuseHere", "(I)Z"⟩, 7), (⟨"CycleSynthesis$Translator", "passes", "(I)Z"⟩, 7), (⟨"CycleSynthesis$Translator", "number", "()I"⟩, 7), (⟨"CycleSynthesis$Translator", "read", "()I"⟩, 7)]
theorem lw_r1 : ∀ q ∈ lw_privs_1, lw_okq q := List.forall_mem_cons.mpr ⟨lw_p0, List.forall_mem_cons.mpr ⟨lw_p1, List.forall_mem_cons.mpr ⟨lw_p2, List.forall_mem_cons.mpr ⟨lw_p3, List.forall_mem_cons.mpr ⟨lw_p4, List.forall_mem_cons.mpr ⟨lw_p5, List.forall_mem_cons.mpr ⟨lw_p6, List.forall_mem_cons.mpr ⟨lw_p7, List.forall_mem_cons.mpr ⟨lw_p8, List.forall_mem_cons.mpr ⟨lw_p9, List.forall_mem_cons.mpr ⟨lw_p10, List.forall_mem_cons.mpr ⟨lw_p11, List.forall_mem_cons.mpr ⟨lw_p12, List.forall_mem_cons.mpr ⟨lw_p13, List.forall_mem_cons.mpr ⟨lw_p14, List.forall_mem_cons.mpr ⟨lw_p15, fun _ h => absurd h List.not_mem_nil⟩⟩⟩⟩⟩⟩⟩⟩⟩⟩⟩⟩⟩⟩⟩⟩
theorem lw_p16 : lw_okq (⟨"CycleSynthesis$Translator", "add", "(IIII)I"⟩, 7) := ⟨⟨by decide +kernel, by decide +kernel⟩, List.mem_of_getElem? (i := 49) (by decide +kernel), List.mem_of_getElem? (i := 555) (by decide +kernel), List.mem_of_getElem? (i := 556) (by decide +kernel)⟩
theorem lw_p17 : lw_okq (⟨"CycleSynthesis$Translator", "body", "(I)Z"⟩, 7) := ⟨⟨by decide +kernel, by decide +kernel⟩, List.mem_of_getElem? (i := 49) (by decide +kernel), List.mem_of_getElem? (i := 588) (by decide +kernel), List.mem_of_getElem? (i := 589) (by decide +kernel)⟩
theorem lw_p18 : lw_okq (⟨"CycleSynthesis$Translator", "whileStatement", "()Z"⟩, 7) := ⟨⟨by decide +kernel, by decide +kernel⟩, List.mem_of_getElem? (i := 49) (by decide +kernel), List.mem_of_getElem? (i := 599) (by decide +kernel), List.mem_of_getElem? (i := 600) (by decide +kernel)⟩
theorem lw_p19 : lw_okq (⟨"CycleSynthesis$Translator", "write", "()Z"⟩, 7) := ⟨⟨by decide +kernel, by decide +kernel⟩, List.mem_of_getElem? (i := 49) (by decide +kernel), List.mem_of_getElem? (i := 603) (by decide +kernel), List.mem_of_getElem? (i := 604) (by decide +kernel)⟩
theorem lw_p20 : lw_okq (⟨"CycleSynthesis$Translator", "assignment", "(I)Z"⟩, 7) := ⟨⟨by decide +kernel, by decide +kernel⟩, List.mem_of_getElem? (i := 49) (by decide +kernel), List.mem_of_getElem? (i := 607) (by decide +kernel), List.mem_of_getElem? (i := 608) (by decide +kernel)⟩
theorem lw_p21 : lw_okq (⟨"CycleSynthesis$Ways", "blockFrom", "(I)I"⟩, 6) := ⟨⟨by decide +kernel, by decide +kernel⟩, List.mem_of_getElem? (i := 69) (by decide +kernel), List.mem_of_getElem? (i := 621) (by decide +kernel), List.mem_of_getElem? (i := 622) (by decide +kernel)⟩
theorem lw_p22 : lw_okq (⟨"CycleSynthesis$Layer", "prepare", "(LCycleSynthesis$Program;LCycleSynthesis$Block;)V"⟩, 6) := ⟨⟨by decide +kernel, by decide +kernel⟩, List.mem_of_getElem? (i := 118) (by decide +kernel), List.mem_of_getElem? (i := 629) (by decide +kernel), List.mem_of_getElem? (i := 630) (by decide +kernel)⟩
theorem lw_p23 : lw_okq (⟨"CycleSynthesis$Layer", "measureHeights", "(LCycleSynthesis$Program;LCycleSynthesis$Block;)V"⟩, 6) := ⟨⟨by decide +kernel, by decide +kernel⟩, List.mem_of_getElem? (i := 118) (by decide +kernel), List.mem_of_getElem? (i := 633) (by decide +kernel), List.mem_of_getElem? (i := 634) (by decide +kernel)⟩
theorem lw_p24 : lw_okq (⟨"CycleSynthesis$Operation", "uses", "(I)Z"⟩, 15) := ⟨⟨by decide +kernel, by decide +kernel⟩, List.mem_of_getElem? (i := 180) (by decide +kernel), List.mem_of_getElem? (i := 642) (by decide +kernel), List.mem_of_getElem? (i := 643) (by decide +kernel)⟩
theorem lw_p25 : lw_okq (⟨"CycleSynthesis$Operation", "touchesGiven", "(LCycleSynthesis$Operation;)Z"⟩, 15) := ⟨⟨by decide +kernel, by decide +kernel⟩, List.mem_of_getElem? (i := 180) (by decide +kernel), List.mem_of_getElem? (i := 646) (by decide +kernel), List.mem_of_getElem? (i := 647) (by decide +kernel)⟩
theorem lw_p26 : lw_okq (⟨"CycleSynthesis$Operation", "usesGiven", "(LCycleSynthesis$Operation;)Z"⟩, 15) := ⟨⟨by decide +kernel, by decide +kernel⟩, List.mem_of_getElem? (i := 180) (by decide +kernel), List.mem_of_getElem? (i := 650) (by decide +kernel), List.mem_of_getElem? (i := 651) (by decide +kernel)⟩
theorem lw_p27 : lw_okq (⟨"CycleSynthesis$Layer", "rank", "(LCycleSynthesis$Program;LCycleSynthesis$Block;)V"⟩, 6) := ⟨⟨by decide +kernel, by decide +kernel⟩, List.mem_of_getElem? (i := 118) (by decide +kernel), List.mem_of_getElem? (i := 658) (by decide +kernel), List.mem_of_getElem? (i := 659) (by decide +kernel)⟩
theorem lw_p28 : lw_okq (⟨"CycleSynthesis$Layer", "beginAll", "(LCycleSynthesis$Program;LCycleSynthesis$Block;)V"⟩, 6) := ⟨⟨by decide +kernel, by decide +kernel⟩, List.mem_of_getElem? (i := 118) (by decide +kernel), List.mem_of_getElem? (i := 662) (by decide +kernel), List.mem_of_getElem? (i := 663) (by decide +kernel)⟩
theorem lw_p29 : lw_okq (⟨"CycleSynthesis$Layer", "begins", "(LCycleSynthesis$Operation;I)Z"⟩, 6) := ⟨⟨by decide +kernel, by decide +kernel⟩, List.mem_of_getElem? (i := 118) (by decide +kernel), List.mem_of_getElem? (i := 666) (by decide +kernel), List.mem_of_getElem? (i := 667) (by decide +kernel)⟩
theorem lw_p30 : lw_okq (⟨"CycleSynthesis$Layer", "freeUnit", "(II)I"⟩, 6) := ⟨⟨by decide +kernel, by decide +kernel⟩, List.mem_of_getElem? (i := 118) (by decide +kernel), List.mem_of_getElem? (i := 674) (by decide +kernel), List.mem_of_getElem? (i := 675) (by decide +kernel)⟩
theorem lw_p31 : lw_okq (⟨"CycleSynthesis$Layer", "tellThoseBehind", "(LCycleSynthesis$Program;LCycleSynthesis$Block;LCycleSynthesis$Operation;)V"⟩, 6) := ⟨⟨by decide +kernel, by decide +kernel⟩, List.mem_of_getElem? (i := 118) (by decide +kernel), List.mem_of_getElem? (i := 682) (by decide +kernel), List.mem_of_getElem? (i := 683) (by decide +kernel)⟩
def lw_privs_2 : List (MethodName × Nat) := [(⟨"CycleSynthesis$Translator", "add", "(IIII)I"⟩, 7), (⟨"CycleSynthesis$Translator", "body", "(I)Z"⟩, 7), (⟨"CycleSynthesis$Translator", "whileStatement", "()Z"⟩, 7), (⟨"CycleSynthesis$Translator", "write", "()Z"⟩, 7), (⟨"CycleSynthesis$Translator", "assignment", "(I)Z"⟩, 7), (⟨"CycleSynthesis$Ways", "blockFrom", "(I)I"⟩, 6), (⟨"CycleSynthesis$Layer", "prepare", "(LCycleSynthesis$Program;LCycleSynthesis$Block;)V"⟩, 6), (⟨"CycleSynthesis$Layer", "measureHeights", "(LCycleSynthesis$Program;LCycleSynthesis$Block;)V"⟩, 6), (⟨"CycleSynthesis$Operation", "uses", "(I)Z"⟩, 15), (⟨"CycleSynthesis$Operation", "touchesGiven", "(LCycleSynthesis$Operation;)Z"⟩, 15), (⟨"CycleSynthesis$Operation", "usesGiven", "(LCycleSynthesis$Operation;)Z"⟩, 15), (⟨"CycleSynthesis$Layer", "rank", "(LCycleSynthesis$Program;LCycleSynthesis$Block;)V"⟩, 6), (⟨"CycleSynthesis$Layer", "beginAll", "(LCycleSynthesis$Program;LCycleSynthesis$Block;)V"⟩, 6), (⟨"CycleSynthesis$Layer", "begins", "(LCycleSynthesis$Operation;I)Z"⟩, 6), (⟨"CycleSynthesis$Layer", "freeUnit", "(II)I"⟩, 6), (⟨"CycleSynthesis$Layer", "tellThoseBehind", "(LCycleSynthesis$Program;LCycleSynthesis$Block;LCycleSynthesis$Operation;)V"⟩, 6)]
theorem lw_r2 : ∀ q ∈ lw_privs_2, lw_okq q := List.forall_mem_cons.mpr ⟨lw_p16, List.forall_mem_cons.mpr ⟨lw_p17, List.forall_mem_cons.mpr ⟨lw_p18, List.forall_mem_cons.mpr ⟨lw_p19, List.forall_mem_cons.mpr ⟨lw_p20, List.forall_mem_cons.mpr ⟨lw_p21, List.forall_mem_cons.mpr ⟨lw_p22, List.forall_mem_cons.mpr ⟨lw_p23, List.forall_mem_cons.mpr ⟨lw_p24, List.forall_mem_cons.mpr ⟨lw_p25, List.forall_mem_cons.mpr ⟨lw_p26, List.forall_mem_cons.mpr ⟨lw_p27, List.forall_mem_cons.mpr ⟨lw_p28, List.forall_mem_cons.mpr ⟨lw_p29, List.forall_mem_cons.mpr ⟨lw_p30, List.forall_mem_cons.mpr ⟨lw_p31, fun _ h => absurd h List.not_mem_nil⟩⟩⟩⟩⟩⟩⟩⟩⟩⟩⟩⟩⟩⟩⟩⟩
theorem lw_p32 : lw_okq (⟨"CycleSynthesis$Layer", "noteUses", "(LCycleSynthesis$Program;LCycleSynthesis$Block;)V"⟩, 6) := ⟨⟨by decide +kernel, by decide +kernel⟩, List.mem_of_getElem? (i := 118) (by decide +kernel), List.mem_of_getElem? (i := 686) (by decide +kernel), List.mem_of_getElem? (i := 687) (by decide +kernel)⟩
theorem lw_p33 : lw_okq (⟨"CycleSynthesis$Layer", "noteUse", "(LCycleSynthesis$Program;II)V"⟩, 6) := ⟨⟨by decide +kernel, by decide +kernel⟩, List.mem_of_getElem? (i := 118) (by decide +kernel), List.mem_of_getElem? (i := 690) (by decide +kernel), List.mem_of_getElem? (i := 691) (by decide +kernel)⟩
theorem lw_p34 : lw_okq (⟨"CycleSynthesis$Layer", "bindRegisters", "(LCycleSynthesis$Program;LCycleSynthesis$Block;)V"⟩, 6) := ⟨⟨by decide +kernel, by decide +kernel⟩, List.mem_of_getElem? (i := 118) (by decide +kernel), List.mem_of_getElem? (i := 696) (by decide +kernel), List.mem_of_getElem? (i := 697) (by decide +kernel)⟩
theorem lw_p35 : lw_okq (⟨"CycleSynthesis$Layer", "freeRegister", "(II)I"⟩, 6) := ⟨⟨by decide +kernel, by decide +kernel⟩, List.mem_of_getElem? (i := 118) (by decide +kernel), List.mem_of_getElem? (i := 704) (by decide +kernel), List.mem_of_getElem? (i := 705) (by decide +kernel)⟩
theorem lw_p36 : lw_okq (⟨"java/lang/Throwable", "fillInStackTrace", "(I)Ljava/lang/Throwable;"⟩, 6) := ⟨⟨by decide +kernel, by decide +kernel⟩, List.mem_of_getElem? (i := 774) (by decide +kernel), List.mem_of_getElem? (i := 772) (by decide +kernel), List.mem_of_getElem? (i := 773) (by decide +kernel)⟩
theorem lw_p37 : lw_okq (⟨"CycleSynthesis$Machine", "perform", "(LCycleSynthesis$Block;)V"⟩, 6) := ⟨⟨by decide +kernel, by decide +kernel⟩, List.mem_of_getElem? (i := 145) (by decide +kernel), List.mem_of_getElem? (i := 908) (by decide +kernel), List.mem_of_getElem? (i := 909) (by decide +kernel)⟩
theorem lw_p38 : lw_okq (⟨"CycleSynthesis$Machine", "outcome", "(LCycleSynthesis$Operation;)I"⟩, 6) := ⟨⟨by decide +kernel, by decide +kernel⟩, List.mem_of_getElem? (i := 145) (by decide +kernel), List.mem_of_getElem? (i := 912) (by decide +kernel), List.mem_of_getElem? (i := 913) (by decide +kernel)⟩
theorem lw_p39 : lw_okq (⟨"CycleSynthesis$Machine", "taken", "(I)I"⟩, 6) := ⟨⟨by decide +kernel, by decide +kernel⟩, List.mem_of_getElem? (i := 145) (by decide +kernel), List.mem_of_getElem? (i := 916) (by decide +kernel), List.mem_of_getElem? (i := 917) (by decide +kernel)⟩
theorem lw_p40 : lw_okq (⟨"CycleSynthesisModel", "keepProgram", "()V"⟩, 51) := ⟨⟨by decide +kernel, by decide +kernel⟩, List.mem_of_getElem? (i := 928) (by decide +kernel), List.mem_of_getElem? (i := 934) (by decide +kernel), List.mem_of_getElem? (i := 935) (by decide +kernel)⟩
theorem lw_p41 : lw_okq (⟨"CycleSynthesisModel", "lay", "()V"⟩, 51) := ⟨⟨by decide +kernel, by decide +kernel⟩, List.mem_of_getElem? (i := 928) (by decide +kernel), List.mem_of_getElem? (i := 938) (by decide +kernel), List.mem_of_getElem? (i := 939) (by decide +kernel)⟩
theorem lw_p42 : lw_okq (⟨"CycleSynthesisModel", "layBlock", "(I)V"⟩, 51) := ⟨⟨by decide +kernel, by decide +kernel⟩, List.mem_of_getElem? (i := 928) (by decide +kernel), List.mem_of_getElem? (i := 942) (by decide +kernel), List.mem_of_getElem? (i := 943) (by decide +kernel)⟩
theorem lw_p43 : lw_okq (⟨"CycleSynthesisModel", "first", "(I)I"⟩, 51) := ⟨⟨by decide +kernel, by decide +kernel⟩, List.mem_of_getElem? (i := 928) (by decide +kernel), List.mem_of_getElem? (i := 946) (by decide +kernel), List.mem_of_getElem? (i := 947) (by decide +kernel)⟩
theorem lw_p44 : lw_okq (⟨"CycleSynthesisModel", "behindAll", "(I)I"⟩, 51) := ⟨⟨by decide +kernel, by decide +kernel⟩, List.mem_of_getElem? (i := 928) (by decide +kernel), List.mem_of_getElem? (i := 950) (by decide +kernel), List.mem_of_getElem? (i := 951) (by decide +kernel)⟩
theorem lw_p45 : lw_okq (⟨"CycleSynthesisModel", "comesBehind", "(II)Z"⟩, 51) := ⟨⟨by decide +kernel, by decide +kernel⟩, List.mem_of_getElem? (i := 928) (by decide +kernel), List.mem_of_getElem? (i := 954) (by decide +kernel), List.mem_of_getElem? (i := 955) (by decide +kernel)⟩
theorem lw_p46 : lw_okq (⟨"CycleSynthesisModel", "usesValue", "(II)Z"⟩, 51) := ⟨⟨by decide +kernel, by decide +kernel⟩, List.mem_of_getElem? (i := 928) (by decide +kernel), List.mem_of_getElem? (i := 958) (by decide +kernel), List.mem_of_getElem? (i := 959) (by decide +kernel)⟩
theorem lw_p47 : lw_okq (⟨"CycleSynthesisModel", "usesVariable", "(II)Z"⟩, 51) := ⟨⟨by decide +kernel, by decide +kernel⟩, List.mem_of_getElem? (i := 928) (by decide +kernel), List.mem_of_getElem? (i := 962) (by decide +kernel), List.mem_of_getElem? (i := 963) (by decide +kernel)⟩
def lw_privs_3 : List (MethodName × Nat) := [(⟨"CycleSynthesis$Layer", "noteUses", "(LCycleSynthesis$Program;LCycleSynthesis$Block;)V"⟩, 6), (⟨"CycleSynthesis$Layer", "noteUse", "(LCycleSynthesis$Program;II)V"⟩, 6), (⟨"CycleSynthesis$Layer", "bindRegisters", "(LCycleSynthesis$Program;LCycleSynthesis$Block;)V"⟩, 6), (⟨"CycleSynthesis$Layer", "freeRegister", "(II)I"⟩, 6), (⟨"java/lang/Throwable", "fillInStackTrace", "(I)Ljava/lang/Throwable;"⟩, 6), (⟨"CycleSynthesis$Machine", "perform", "(LCycleSynthesis$Block;)V"⟩, 6), (⟨"CycleSynthesis$Machine", "outcome", "(LCycleSynthesis$Operation;)I"⟩, 6), (⟨"CycleSynthesis$Machine", "taken", "(I)I"⟩, 6), (⟨"CycleSynthesisModel", "keepProgram", "()V"⟩, 51), (⟨"CycleSynthesisModel", "lay", "()V"⟩, 51), (⟨"CycleSynthesisModel", "layBlock", "(I)V"⟩, 51), (⟨"CycleSynthesisModel", "first", "(I)I"⟩, 51), (⟨"CycleSynthesisModel", "behindAll", "(I)I"⟩, 51), (⟨"CycleSynthesisModel", "comesBehind", "(II)Z"⟩, 51), (⟨"CycleSynthesisModel", "usesValue", "(II)Z"⟩, 51), (⟨"CycleSynthesisModel", "usesVariable", "(II)Z"⟩, 51)]
theorem lw_r3 : ∀ q ∈ lw_privs_3, lw_okq q := List.forall_mem_cons.mpr ⟨lw_p32, List.forall_mem_cons.mpr ⟨lw_p33, List.forall_mem_cons.mpr ⟨lw_p34, List.forall_mem_cons.mpr ⟨lw_p35, List.forall_mem_cons.mpr ⟨lw_p36, List.forall_mem_cons.mpr ⟨lw_p37, List.forall_mem_cons.mpr ⟨lw_p38, List.forall_mem_cons.mpr ⟨lw_p39, List.forall_mem_cons.mpr ⟨lw_p40, List.forall_mem_cons.mpr ⟨lw_p41, List.forall_mem_cons.mpr ⟨lw_p42, List.forall_mem_cons.mpr ⟨lw_p43, List.forall_mem_cons.mpr ⟨lw_p44, List.forall_mem_cons.mpr ⟨lw_p45, List.forall_mem_cons.mpr ⟨lw_p46, List.forall_mem_cons.mpr ⟨lw_p47, fun _ h => absurd h List.not_mem_nil⟩⟩⟩⟩⟩⟩⟩⟩⟩⟩⟩⟩⟩⟩⟩⟩
theorem lw_p48 : lw_okq (⟨"CycleSynthesisModel", "latencyOf", "(I)I"⟩, 51) := ⟨⟨by decide +kernel, by decide +kernel⟩, List.mem_of_getElem? (i := 928) (by decide +kernel), List.mem_of_getElem? (i := 969) (by decide +kernel), List.mem_of_getElem? (i := 970) (by decide +kernel)⟩
theorem lw_p49 : lw_okq (⟨"CycleSynthesisModel", "beginOne", "(II)Z"⟩, 51) := ⟨⟨by decide +kernel, by decide +kernel⟩, List.mem_of_getElem? (i := 928) (by decide +kernel), List.mem_of_getElem? (i := 973) (by decide +kernel), List.mem_of_getElem? (i := 974) (by decide +kernel)⟩
theorem lw_p50 : lw_okq (⟨"CycleSynthesisModel", "isReady", "(III)Z"⟩, 51) := ⟨⟨by decide +kernel, by decide +kernel⟩, List.mem_of_getElem? (i := 928) (by decide +kernel), List.mem_of_getElem? (i := 977) (by decide +kernel), List.mem_of_getElem? (i := 978) (by decide +kernel)⟩
theorem lw_p51 : lw_okq (⟨"CycleSynthesisModel", "endOf", "(I)I"⟩, 51) := ⟨⟨by decide +kernel, by decide +kernel⟩, List.mem_of_getElem? (i := 928) (by decide +kernel), List.mem_of_getElem? (i := 981) (by decide +kernel), List.mem_of_getElem? (i := 982) (by decide +kernel)⟩
theorem lw_p52 : lw_okq (⟨"CycleSynthesisModel", "freeUnit", "(III)I"⟩, 51) := ⟨⟨by decide +kernel, by decide +kernel⟩, List.mem_of_getElem? (i := 928) (by decide +kernel), List.mem_of_getElem? (i := 985) (by decide +kernel), List.mem_of_getElem? (i := 986) (by decide +kernel)⟩
theorem lw_p53 : lw_okq (⟨"CycleSynthesisModel", "bindRegisters", "()V"⟩, 51) := ⟨⟨by decide +kernel, by decide +kernel⟩, List.mem_of_getElem? (i := 928) (by decide +kernel), List.mem_of_getElem? (i := 989) (by decide +kernel), List.mem_of_getElem? (i := 990) (by decide +kernel)⟩
theorem lw_p54 : lw_okq (⟨"CycleSynthesisModel", "heldTo", "(I)I"⟩, 51) := ⟨⟨by decide +kernel, by decide +kernel⟩, List.mem_of_getElem? (i := 928) (by decide +kernel), List.mem_of_getElem? (i := 993) (by decide +kernel), List.mem_of_getElem? (i := 994) (by decide +kernel)⟩
theorem lw_p55 : lw_okq (⟨"CycleSynthesisModel", "isEnd", "(II)Z"⟩, 51) := ⟨⟨by decide +kernel, by decide +kernel⟩, List.mem_of_getElem? (i := 928) (by decide +kernel), List.mem_of_getElem? (i := 997) (by decide +kernel), List.mem_of_getElem? (i := 998) (by decide +kernel)⟩
theorem lw_p56 : lw_okq (⟨"CycleSynthesisModel", "holds", "(I)Z"⟩, 51) := ⟨⟨by decide +kernel, by decide +kernel⟩, List.mem_of_getElem? (i := 928) (by decide +kernel), List.mem_of_getElem? (i := 1001) (by decide +kernel), List.mem_of_getElem? (i := 1002) (by decide +kernel)⟩
theorem lw_p57 : lw_okq (⟨"CycleSynthesisModel", "isBefore", "(II)Z"⟩, 51) := ⟨⟨by decide +kernel, by decide +kernel⟩, List.mem_of_getElem? (i := 928) (by decide +kernel), List.mem_of_getElem? (i := 1005) (by decide +kernel), List.mem_of_getElem? (i := 1006) (by decide +kernel)⟩
theorem lw_p58 : lw_okq (⟨"CycleSynthesisModel", "bindOne", "(I)V"⟩, 51) := ⟨⟨by decide +kernel, by decide +kernel⟩, List.mem_of_getElem? (i := 928) (by decide +kernel), List.mem_of_getElem? (i := 1009) (by decide +kernel), List.mem_of_getElem? (i := 1010) (by decide +kernel)⟩
theorem lw_p59 : lw_okq (⟨"CycleSynthesisModel", "meet", "(II)Z"⟩, 51) := ⟨⟨by decide +kernel, by decide +kernel⟩, List.mem_of_getElem? (i := 928) (by decide +kernel), List.mem_of_getElem? (i := 1013) (by decide +kernel), List.mem_of_getElem? (i := 1014) (by decide +kernel)⟩
theorem lw_p60 : lw_okq (⟨"CycleSynthesisModel", "stand", "()V"⟩, 51) := ⟨⟨by decide +kernel, by decide +kernel⟩, List.mem_of_getElem? (i := 928) (by decide +kernel), List.mem_of_getElem? (i := 1017) (by decide +kernel), List.mem_of_getElem? (i := 1018) (by decide +kernel)⟩
theorem lw_p61 : lw_okq (⟨"CycleSynthesisModel", "statements", "()V"⟩, 51) := ⟨⟨by decide +kernel, by decide +kernel⟩, List.mem_of_getElem? (i := 928) (by decide +kernel), List.mem_of_getElem? (i := 1193) (by decide +kernel), List.mem_of_getElem? (i := 1194) (by decide +kernel)⟩
theorem lw_p62 : lw_okq (⟨"CycleSynthesisModel", "next", "()I"⟩, 51) := ⟨⟨by decide +kernel, by decide +kernel⟩, List.mem_of_getElem? (i := 928) (by decide +kernel), List.mem_of_getElem? (i := 1197) (by decide +kernel), List.mem_of_getElem? (i := 1198) (by decide +kernel)⟩
theorem lw_p63 : lw_okq (⟨"CycleSynthesisModel", "byteAt", "(I)I"⟩, 51) := ⟨⟨by decide +kernel, by decide +kernel⟩, List.mem_of_getElem? (i := 928) (by decide +kernel), List.mem_of_getElem? (i := 1201) (by decide +kernel), List.mem_of_getElem? (i := 1202) (by decide +kernel)⟩
def lw_privs_4 : List (MethodName × Nat) := [(⟨"CycleSynthesisModel", "latencyOf", "(I)I"⟩, 51), (⟨"CycleSynthesisModel", "beginOne", "(II)Z"⟩, 51), (⟨"CycleSynthesisModel", "isReady", "(III)Z"⟩, 51), (⟨"CycleSynthesisModel", "endOf", "(I)I"⟩, 51), (⟨"CycleSynthesisModel", "freeUnit", "(III)I"⟩, 51), (⟨"CycleSynthesisModel", "bindRegisters", "()V"⟩, 51), (⟨"CycleSynthesisModel", "heldTo", "(I)I"⟩, 51), (⟨"CycleSynthesisModel", "isEnd", "(II)Z"⟩, 51), (⟨"CycleSynthesisModel", "holds", "(I)Z"⟩, 51), (⟨"CycleSynthesisModel", "isBefore", "(II)Z"⟩, 51), (⟨"CycleSynthesisModel", "bindOne", "(I)V"⟩, 51), (⟨"CycleSynthesisModel", "meet", "(II)Z"⟩, 51), (⟨"CycleSynthesisModel", "stand", "()V"⟩, 51), (⟨"CycleSynthesisModel", "statements", "()V"⟩, 51), (⟨"CycleSynthesisModel", "next", "()I"⟩, 51), (⟨"CycleSynthesisModel", "byteAt", "(I)I"⟩, 51)]
theorem lw_r4 : ∀ q ∈ lw_privs_4, lw_okq q := List.forall_mem_cons.mpr ⟨lw_p48, List.forall_mem_cons.mpr ⟨lw_p49, List.forall_mem_cons.mpr ⟨lw_p50, List.forall_mem_cons.mpr ⟨lw_p51, List.forall_mem_cons.mpr ⟨lw_p52, List.forall_mem_cons.mpr ⟨lw_p53, List.forall_mem_cons.mpr ⟨lw_p54, List.forall_mem_cons.mpr ⟨lw_p55, List.forall_mem_cons.mpr ⟨lw_p56, List.forall_mem_cons.mpr ⟨lw_p57, List.forall_mem_cons.mpr ⟨lw_p58, List.forall_mem_cons.mpr ⟨lw_p59, List.forall_mem_cons.mpr ⟨lw_p60, List.forall_mem_cons.mpr ⟨lw_p61, List.forall_mem_cons.mpr ⟨lw_p62, List.forall_mem_cons.mpr ⟨lw_p63, fun _ h => absurd h List.not_mem_nil⟩⟩⟩⟩⟩⟩⟩⟩⟩⟩⟩⟩⟩⟩⟩⟩
theorem lw_p64 : lw_okq (⟨"CycleSynthesisModel", "word", "()I"⟩, 51) := ⟨⟨by decide +kernel, by decide +kernel⟩, List.mem_of_getElem? (i := 928) (by decide +kernel), List.mem_of_getElem? (i := 1208) (by decide +kernel), List.mem_of_getElem? (i := 1209) (by decide +kernel)⟩
theorem lw_p65 : lw_okq (⟨"CycleSynthesisModel", "wordSize", "(I)I"⟩, 51) := ⟨⟨by decide +kernel, by decide +kernel⟩, List.mem_of_getElem? (i := 928) (by decide +kernel), List.mem_of_getElem? (i := 1212) (by decide +kernel), List.mem_of_getElem? (i := 1213) (by decide +kernel)⟩
theorem lw_p66 : lw_okq (⟨"CycleSynthesisModel", "assignment", "()V"⟩, 51) := ⟨⟨by decide +kernel, by decide +kernel⟩, List.mem_of_getElem? (i := 928) (by decide +kernel), List.mem_of_getElem? (i := 1219) (by decide +kernel), List.mem_of_getElem? (i := 1220) (by decide +kernel)⟩
theorem lw_p67 : lw_okq (⟨"CycleSynthesisModel", "want", "(I)V"⟩, 51) := ⟨⟨by decide +kernel, by decide +kernel⟩, List.mem_of_getElem? (i := 928) (by decide +kernel), List.mem_of_getElem? (i := 1223) (by decide +kernel), List.mem_of_getElem? (i := 1224) (by decide +kernel)⟩
theorem lw_p68 : lw_okq (⟨"CycleSynthesisModel", "fail", "(II)V"⟩, 51) := ⟨⟨by decide +kernel, by decide +kernel⟩, List.mem_of_getElem? (i := 928) (by decide +kernel), List.mem_of_getElem? (i := 1227) (by decide +kernel), List.mem_of_getElem? (i := 1228) (by decide +kernel)⟩
theorem lw_p69 : lw_okq (⟨"CycleSynthesisModel", "expression", "()V"⟩, 51) := ⟨⟨by decide +kernel, by decide +kernel⟩, List.mem_of_getElem? (i := 928) (by decide +kernel), List.mem_of_getElem? (i := 1231) (by decide +kernel), List.mem_of_getElem? (i := 1232) (by decide +kernel)⟩
theorem lw_p70 : lw_okq (⟨"CycleSynthesisModel", "sum", "()V"⟩, 51) := ⟨⟨by decide +kernel, by decide +kernel⟩, List.mem_of_getElem? (i := 928) (by decide +kernel), List.mem_of_getElem? (i := 1235) (by decide +kernel), List.mem_of_getElem? (i := 1236) (by decide +kernel)⟩
theorem lw_p71 : lw_okq (⟨"CycleSynthesisModel", "term", "()V"⟩, 51) := ⟨⟨by decide +kernel, by decide +kernel⟩, List.mem_of_getElem? (i := 928) (by decide +kernel), List.mem_of_getElem? (i := 1239) (by decide +kernel), List.mem_of_getElem? (i := 1240) (by decide +kernel)⟩
theorem lw_p72 : lw_okq (⟨"CycleSynthesisModel", "factor", "()V"⟩, 51) := ⟨⟨by decide +kernel, by decide +kernel⟩, List.mem_of_getElem? (i := 928) (by decide +kernel), List.mem_of_getElem? (i := 1243) (by decide +kernel), List.mem_of_getElem? (i := 1244) (by decide +kernel)⟩
theorem lw_p73 : lw_okq (⟨"CycleSynthesisModel", "number", "()V"⟩, 51) := ⟨⟨by decide +kernel, by decide +kernel⟩, List.mem_of_getElem? (i := 928) (by decide +kernel), List.mem_of_getElem? (i := 1250) (by decide +kernel), List.mem_of_getElem? (i := 1251) (by decide +kernel)⟩
theorem lw_p74 : lw_okq (⟨"CycleSynthesisModel", "open", "()V"⟩, 51) := ⟨⟨by decide +kernel, by decide +kernel⟩, List.mem_of_getElem? (i := 928) (by decide +kernel), List.mem_of_getElem? (i := 1258) (by decide +kernel), List.mem_of_getElem? (i := 1259) (by decide +kernel)⟩
theorem lw_p75 : lw_okq (⟨"CycleSynthesisModel", "emit", "(IIII)I"⟩, 51) := ⟨⟨by decide +kernel, by decide +kernel⟩, List.mem_of_getElem? (i := 928) (by decide +kernel), List.mem_of_getElem? (i := 1262) (by decide +kernel), List.mem_of_getElem? (i := 1263) (by decide +kernel)⟩
theorem lw_p76 : lw_okq (⟨"CycleSynthesisModel", "needBlock", "()V"⟩, 51) := ⟨⟨by decide +kernel, by decide +kernel⟩, List.mem_of_getElem? (i := 928) (by decide +kernel), List.mem_of_getElem? (i := 1266) (by decide +kernel), List.mem_of_getElem? (i := 1267) (by decide +kernel)⟩
theorem lw_p77 : lw_okq (⟨"CycleSynthesisModel", "lead", "(II)V"⟩, 51) := ⟨⟨by decide +kernel, by decide +kernel⟩, List.mem_of_getElem? (i := 928) (by decide +kernel), List.mem_of_getElem? (i := 1270) (by decide +kernel), List.mem_of_getElem? (i := 1271) (by decide +kernel)⟩
theorem lw_p78 : lw_okq (⟨"CycleSynthesisModel", "join", "(IIII)V"⟩, 51) := ⟨⟨by decide +kernel, by decide +kernel⟩, List.mem_of_getElem? (i := 928) (by decide +kernel), List.mem_of_getElem? (i := 1274) (by decide +kernel), List.mem_of_getElem? (i := 1275) (by decide +kernel)⟩
theorem lw_p79 : lw_okq (⟨"CycleSynthesisModel", "writing", "()V"⟩, 51) := ⟨⟨by decide +kernel, by decide +kernel⟩, List.mem_of_getElem? (i := 928) (by decide +kernel), List.mem_of_getElem? (i := 1278) (by decide +kernel), List.mem_of_getElem? (i := 1279) (by decide +kernel)⟩
def lw_privs_5 : List (MethodName × Nat) := [(⟨"CycleSynthesisModel", "word", "()I"⟩, 51), (⟨"CycleSynthesisModel", "wordSize", "(I)I"⟩, 51), (⟨"CycleSynthesisModel", "assignment", "()V"⟩, 51), (⟨"CycleSynthesisModel", "want", "(I)V"⟩, 51), (⟨"CycleSynthesisModel", "fail", "(II)V"⟩, 51), (⟨"CycleSynthesisModel", "expression", "()V"⟩, 51), (⟨"CycleSynthesisModel", "sum", "()V"⟩, 51), (⟨"CycleSynthesisModel", "term", "()V"⟩, 51), (⟨"CycleSynthesisModel", "factor", "()V"⟩, 51), (⟨"CycleSynthesisModel", "number", "()V"⟩, 51), (⟨"CycleSynthesisModel", "open", "()V"⟩, 51), (⟨"CycleSynthesisModel", "emit", "(IIII)I"⟩, 51), (⟨"CycleSynthesisModel", "needBlock", "()V"⟩, 51), (⟨"CycleSynthesisModel", "lead", "(II)V"⟩, 51), (⟨"CycleSynthesisModel", "join", "(IIII)V"⟩, 51), (⟨"CycleSynthesisModel", "writing", "()V"⟩, 51)]
theorem lw_r5 : ∀ q ∈ lw_privs_5, lw_okq q := List.forall_mem_cons.mpr ⟨lw_p64, List.forall_mem_cons.mpr ⟨lw_p65, List.forall_mem_cons.mpr ⟨lw_p66, List.forall_mem_cons.mpr ⟨lw_p67, List.forall_mem_cons.mpr ⟨lw_p68, List.forall_mem_cons.mpr ⟨lw_p69, List.forall_mem_cons.mpr ⟨lw_p70, List.forall_mem_cons.mpr ⟨lw_p71, List.forall_mem_cons.mpr ⟨lw_p72, List.forall_mem_cons.mpr ⟨lw_p73, List.forall_mem_cons.mpr ⟨lw_p74, List.forall_mem_cons.mpr ⟨lw_p75, List.forall_mem_cons.mpr ⟨lw_p76, List.forall_mem_cons.mpr ⟨lw_p77, List.forall_mem_cons.mpr ⟨lw_p78, List.forall_mem_cons.mpr ⟨lw_p79, fun _ h => absurd h List.not_mem_nil⟩⟩⟩⟩⟩⟩⟩⟩⟩⟩⟩⟩⟩⟩⟩⟩
theorem lw_p80 : lw_okq (⟨"CycleSynthesisModel", "choice", "()V"⟩, 51) := ⟨⟨by decide +kernel, by decide +kernel⟩, List.mem_of_getElem? (i := 928) (by decide +kernel), List.mem_of_getElem? (i := 1282) (by decide +kernel), List.mem_of_getElem? (i := 1283) (by decide +kernel)⟩
theorem lw_p81 : lw_okq (⟨"CycleSynthesisModel", "endBlock", "()I"⟩, 51) := ⟨⟨by decide +kernel, by decide +kernel⟩, List.mem_of_getElem? (i := 928) (by decide +kernel), List.mem_of_getElem? (i := 1286) (by decide +kernel), List.mem_of_getElem? (i := 1287) (by decide +kernel)⟩
theorem lw_p82 : lw_okq (⟨"CycleSynthesisModel", "way", "(IZ)V"⟩, 51) := ⟨⟨by decide +kernel, by decide +kernel⟩, List.mem_of_getElem? (i := 928) (by decide +kernel), List.mem_of_getElem? (i := 1290) (by decide +kernel), List.mem_of_getElem? (i := 1291) (by decide +kernel)⟩
theorem lw_p83 : lw_okq (⟨"CycleSynthesisModel", "inBraces", "()V"⟩, 51) := ⟨⟨by decide +kernel, by decide +kernel⟩, List.mem_of_getElem? (i := 928) (by decide +kernel), List.mem_of_getElem? (i := 1294) (by decide +kernel), List.mem_of_getElem? (i := 1295) (by decide +kernel)⟩
theorem lw_p84 : lw_okq (⟨"CycleSynthesisModel", "leaveOpen", "()V"⟩, 51) := ⟨⟨by decide +kernel, by decide +kernel⟩, List.mem_of_getElem? (i := 928) (by decide +kernel), List.mem_of_getElem? (i := 1298) (by decide +kernel), List.mem_of_getElem? (i := 1299) (by decide +kernel)⟩
theorem lw_p85 : lw_okq (⟨"CycleSynthesisModel", "loop", "()V"⟩, 51) := ⟨⟨by decide +kernel, by decide +kernel⟩, List.mem_of_getElem? (i := 928) (by decide +kernel), List.mem_of_getElem? (i := 1302) (by decide +kernel), List.mem_of_getElem? (i := 1303) (by decide +kernel)⟩
theorem lw_p86 : lw_okq (⟨"CycleSynthesisModel", "doOperation", "(I)V"⟩, 51) := ⟨⟨by decide +kernel, by decide +kernel⟩, List.mem_of_getElem? (i := 928) (by decide +kernel), List.mem_of_getElem? (i := 1354) (by decide +kernel), List.mem_of_getElem? (i := 1355) (by decide +kernel)⟩
theorem lw_p87 : lw_okq (⟨"CycleSynthesisModel", "look", "(II)I"⟩, 51) := ⟨⟨by decide +kernel, by decide +kernel⟩, List.mem_of_getElem? (i := 928) (by decide +kernel), List.mem_of_getElem? (i := 1358) (by decide +kernel), List.mem_of_getElem? (i := 1359) (by decide +kernel)⟩
def lw_privs_6 : List (MethodName × Nat) := [(⟨"CycleSynthesisModel", "choice", "()V"⟩, 51), (⟨"CycleSynthesisModel", "endBlock", "()I"⟩, 51), (⟨"CycleSynthesisModel", "way", "(IZ)V"⟩, 51), (⟨"CycleSynthesisModel", "inBraces", "()V"⟩, 51), (⟨"CycleSynthesisModel", "leaveOpen", "()V"⟩, 51), (⟨"CycleSynthesisModel", "loop", "()V"⟩, 51), (⟨"CycleSynthesisModel", "doOperation", "(I)V"⟩, 51), (⟨"CycleSynthesisModel", "look", "(II)I"⟩, 51)]
theorem lw_r6 : ∀ q ∈ lw_privs_6, lw_okq q := List.forall_mem_cons.mpr ⟨lw_p80, List.forall_mem_cons.mpr ⟨lw_p81, List.forall_mem_cons.mpr ⟨lw_p82, List.forall_mem_cons.mpr ⟨lw_p83, List.forall_mem_cons.mpr ⟨lw_p84, List.forall_mem_cons.mpr ⟨lw_p85, List.forall_mem_cons.mpr ⟨lw_p86, List.forall_mem_cons.mpr ⟨lw_p87, fun _ h => absurd h List.not_mem_nil⟩⟩⟩⟩⟩⟩⟩⟩
def lw_privs : List (MethodName × Nat) := lw_privs_1 ++ (lw_privs_2 ++ (lw_privs_3 ++ (lw_privs_4 ++ (lw_privs_5 ++ (lw_privs_6)))))
def lw_tbl : List Cond := k2_sels lw_privs ++ tables_1
theorem lw_privs_ok : ∀ q ∈ lw_privs, lw_okq q := by
  show ∀ q ∈ lw_privs_1 ++ (lw_privs_2 ++ (lw_privs_3 ++ (lw_privs_4 ++ (lw_privs_5 ++ (lw_privs_6))))), lw_okq q
  exact List.forall_mem_append.mpr ⟨lw_r1, List.forall_mem_append.mpr ⟨lw_r2, List.forall_mem_append.mpr ⟨lw_r3, List.forall_mem_append.mpr ⟨lw_r4, List.forall_mem_append.mpr ⟨lw_r5, lw_r6⟩⟩⟩⟩⟩
-- printed names: classes, fields, codes, methods
def RX0 : String := "CycleSynthesis$Block"
def TX0 : u_T := fun k => match k with
  | 0 => ("CycleSynthesis$Block", "first", "I", false)
  | 1 => ("CycleSynthesis$Block", "many", "I", false)
  | 2 => ("CycleSynthesis$Block", "chooses", "Z", false)
  | 3 => ("CycleSynthesis$Block", "choice", "I", false)
  | 4 => ("CycleSynthesis$Block", "so", "I", false)
  | 5 => ("CycleSynthesis$Block", "otherwise", "I", false)
  | _ => ("CycleSynthesis$Block", "cycles", "I", false)
def tyX0 : Nat → FieldType := fun k => match k with
  | 0 => .int
  | 1 => .int
  | 2 => .boolean
  | 3 => .int
  | 4 => .int
  | 5 => .int
  | _ => .int
abbrev wsX00 : List Cond := u_ws RX0 TX0 7
theorem nmX0 : ∀ a, a < 7 → ∀ b, b < 7 → a ≠ b → (TX0 a).2.1 ≠ (TX0 b).2.1 := by decide +kernel
theorem tyX0_ok : ∀ k, k < 7 → parseFieldDescriptor (TX0 k).2.2.1 = some (tyX0 k) := by decide +kernel
abbrev cX0_init : ByteArray := prog_2_method_1_code
def yX0_init : MethodName := ⟨RX0, "<init>", "()V"⟩
abbrev cX0_become : ByteArray := prog_2_method_2_code
def yX0_become : MethodName := ⟨RX0, "become", "(I)V"⟩
def RX1 : String := "CycleSynthesis$Layer"
def TX1 : u_T := fun k => match k with
  | 0 => ("CycleSynthesis$Layer", "many", "[I", true)
  | 1 => ("CycleSynthesis$Layer", "latency", "[I", true)
  | 2 => ("CycleSynthesis$Layer", "unitFreeFrom", "[I", true)
  | 3 => ("CycleSynthesis$Layer", "registerHeldTo", "[I", true)
  | 4 => ("CycleSynthesis$Layer", "ranked", "[LCycleSynthesis$Operation;", true)
  | _ => ("CycleSynthesis$Layer", "movesBegun", "I", false)
def tyX1 : Nat → FieldType := fun k => match k with
  | 0 => .array .int
  | 1 => .array .int
  | 2 => .array .int
  | 3 => .array .int
  | 4 => .array (.object "CycleSynthesis$Operation")
  | _ => .int
abbrev wsX10 : List Cond := u_ws RX1 TX1 6
theorem nmX1 : ∀ a, a < 6 → ∀ b, b < 6 → a ≠ b → (TX1 a).2.1 ≠ (TX1 b).2.1 := by decide +kernel
theorem tyX1_ok : ∀ k, k < 6 → parseFieldDescriptor (TX1 k).2.2.1 = some (tyX1 k) := by decide +kernel
abbrev cX1_init : ByteArray := prog_3_method_1_code
def yX1_init : MethodName := ⟨RX1, "<init>", "()V"⟩
abbrev cX1_allows : ByteArray := prog_3_method_2_code
def yX1_allows : MethodName := ⟨RX1, "allows", "(III)Z"⟩
abbrev cX1_supply : ByteArray := prog_3_method_3_code
def yX1_supply : MethodName := ⟨RX1, "supply", "(III)V"⟩
abbrev cX1_lay : ByteArray := prog_3_method_4_code
def yX1_lay : MethodName := ⟨RX1, "lay", "(LCycleSynthesis$Program;)V"⟩
abbrev cX1_prepare : ByteArray := prog_3_method_5_code
def yX1_prepare : MethodName := ⟨RX1, "prepare", "(LCycleSynthesis$Program;LCycleSynthesis$Block;)V"⟩
abbrev cX1_measureHeights : ByteArray := prog_3_method_6_code
def yX1_measureHeights : MethodName := ⟨RX1, "measureHeights", "(LCycleSynthesis$Program;LCycleSynthesis$Block;)V"⟩
abbrev cX1_rank : ByteArray := prog_3_method_7_code
def yX1_rank : MethodName := ⟨RX1, "rank", "(LCycleSynthesis$Program;LCycleSynthesis$Block;)V"⟩
abbrev cX1_beginAll : ByteArray := prog_3_method_8_code
def yX1_beginAll : MethodName := ⟨RX1, "beginAll", "(LCycleSynthesis$Program;LCycleSynthesis$Block;)V"⟩
abbrev cX1_begins : ByteArray := prog_3_method_9_code
def yX1_begins : MethodName := ⟨RX1, "begins", "(LCycleSynthesis$Operation;I)Z"⟩
abbrev cX1_freeUnit : ByteArray := prog_3_method_10_code
def yX1_freeUnit : MethodName := ⟨RX1, "freeUnit", "(II)I"⟩
abbrev cX1_tellThoseBehind : ByteArray := prog_3_method_11_code
def yX1_tellThoseBehind : MethodName := ⟨RX1, "tellThoseBehind", "(LCycleSynthesis$Program;LCycleSynthesis$Block;LCycleSynthesis$Operation;)V"⟩
abbrev cX1_noteUses : ByteArray := prog_3_method_12_code
def yX1_noteUses : MethodName := ⟨RX1, "noteUses", "(LCycleSynthesis$Program;LCycleSynthesis$Block;)V"⟩
abbrev cX1_noteUse : ByteArray := prog_3_method_13_code
def yX1_noteUse : MethodName := ⟨RX1, "noteUse", "(LCycleSynthesis$Program;II)V"⟩
abbrev cX1_bindRegisters : ByteArray := prog_3_method_14_code
def yX1_bindRegisters : MethodName := ⟨RX1, "bindRegisters", "(LCycleSynthesis$Program;LCycleSynthesis$Block;)V"⟩
abbrev cX1_freeRegister : ByteArray := prog_3_method_15_code
def yX1_freeRegister : MethodName := ⟨RX1, "freeRegister", "(II)I"⟩
def RX2 : String := "CycleSynthesis$Machine"
def TX2 : u_T := fun k => match k with
  | 0 => ("CycleSynthesis$Machine", "variables", "[I", true)
  | 1 => ("CycleSynthesis$Machine", "cells", "[I", true)
  | 2 => ("CycleSynthesis$Machine", "values", "[I", true)
  | 3 => ("CycleSynthesis$Machine", "program", "LCycleSynthesis$Program;", false)
  | 4 => ("CycleSynthesis$Machine", "next", "I", false)
  | _ => ("CycleSynthesis$Machine", "done", "J", false)
def tyX2 : Nat → FieldType := fun k => match k with
  | 0 => .array .int
  | 1 => .array .int
  | 2 => .array .int
  | 3 => .object "CycleSynthesis$Program"
  | 4 => .int
  | _ => .long
abbrev wsX20 : List Cond := u_ws RX2 TX2 6
theorem nmX2 : ∀ a, a < 6 → ∀ b, b < 6 → a ≠ b → (TX2 a).2.1 ≠ (TX2 b).2.1 := by decide +kernel
theorem tyX2_ok : ∀ k, k < 6 → parseFieldDescriptor (TX2 k).2.2.1 = some (tyX2 k) := by decide +kernel
abbrev cX2_init : ByteArray := prog_4_method_1_code
def yX2_init : MethodName := ⟨RX2, "<init>", "()V"⟩
abbrev cX2_begin : ByteArray := prog_4_method_2_code
def yX2_begin : MethodName := ⟨RX2, "begin", "(LCycleSynthesis$Program;)V"⟩
abbrev cX2_advance : ByteArray := prog_4_method_3_code
def yX2_advance : MethodName := ⟨RX2, "advance", "(I)I"⟩
abbrev cX2_perform : ByteArray := prog_4_method_4_code
def yX2_perform : MethodName := ⟨RX2, "perform", "(LCycleSynthesis$Block;)V"⟩
abbrev cX2_outcome : ByteArray := prog_4_method_5_code
def yX2_outcome : MethodName := ⟨RX2, "outcome", "(LCycleSynthesis$Operation;)I"⟩
abbrev cX2_taken : ByteArray := prog_4_method_6_code
def yX2_taken : MethodName := ⟨RX2, "taken", "(I)I"⟩
def RX3 : String := "CycleSynthesis$Operand"
def TX3 : u_T := fun k => match k with
  | _ => ("", "", "", false)
def tyX3 : Nat → FieldType := fun k => match k with
  | _ => .int
abbrev wsX30 : List Cond := u_ws RX3 TX3 0
theorem nmX3 : ∀ a, a < 0 → ∀ b, b < 0 → a ≠ b → (TX3 a).2.1 ≠ (TX3 b).2.1 := by decide +kernel
theorem tyX3_ok : ∀ k, k < 0 → parseFieldDescriptor (TX3 k).2.2.1 = some (tyX3 k) := by decide +kernel
abbrev cX3_ofVariable : ByteArray := prog_5_method_2_code
def yX3_ofVariable : MethodName := ⟨RX3, "ofVariable", "(I)I"⟩
abbrev cX3_ofValue : ByteArray := prog_5_method_3_code
def yX3_ofValue : MethodName := ⟨RX3, "ofValue", "(I)I"⟩
abbrev cX3_isNumber : ByteArray := prog_5_method_4_code
def yX3_isNumber : MethodName := ⟨RX3, "isNumber", "(I)Z"⟩
abbrev cX3_isValue : ByteArray := prog_5_method_5_code
def yX3_isValue : MethodName := ⟨RX3, "isValue", "(I)Z"⟩
abbrev cX3_variableOf : ByteArray := prog_5_method_6_code
def yX3_variableOf : MethodName := ⟨RX3, "variableOf", "(I)I"⟩
abbrev cX3_operationOf : ByteArray := prog_5_method_7_code
def yX3_operationOf : MethodName := ⟨RX3, "operationOf", "(I)I"⟩
def RX4 : String := "CycleSynthesis$Operation"
def TX4 : u_T := fun k => match k with
  | 0 => ("CycleSynthesis$Operation", "number", "I", false)
  | 1 => ("CycleSynthesis$Operation", "sign", "I", false)
  | 2 => ("CycleSynthesis$Operation", "kind", "I", false)
  | 3 => ("CycleSynthesis$Operation", "left", "I", false)
  | 4 => ("CycleSynthesis$Operation", "right", "I", false)
  | 5 => ("CycleSynthesis$Operation", "gives", "I", false)
  | 6 => ("CycleSynthesis$Operation", "block", "I", false)
  | 7 => ("CycleSynthesis$Operation", "latency", "I", false)
  | 8 => ("CycleSynthesis$Operation", "height", "I", false)
  | 9 => ("CycleSynthesis$Operation", "begin", "I", false)
  | 10 => ("CycleSynthesis$Operation", "unit", "I", false)
  | 11 => ("CycleSynthesis$Operation", "register", "I", false)
  | 12 => ("CycleSynthesis$Operation", "unbegun", "I", false)
  | 13 => ("CycleSynthesis$Operation", "ready", "I", false)
  | _ => ("CycleSynthesis$Operation", "lastUse", "I", false)
def tyX4 : Nat → FieldType := fun k => match k with
  | 0 => .int
  | 1 => .int
  | 2 => .int
  | 3 => .int
  | 4 => .int
  | 5 => .int
  | 6 => .int
  | 7 => .int
  | 8 => .int
  | 9 => .int
  | 10 => .int
  | 11 => .int
  | 12 => .int
  | 13 => .int
  | _ => .int
abbrev wsX40 : List Cond := u_ws RX4 TX4 15
theorem nmX4 : ∀ a, a < 15 → ∀ b, b < 15 → a ≠ b → (TX4 a).2.1 ≠ (TX4 b).2.1 := by decide +kernel
theorem tyX4_ok : ∀ k, k < 15 → parseFieldDescriptor (TX4 k).2.2.1 = some (tyX4 k) := by decide +kernel
abbrev cX4_init : ByteArray := prog_6_method_1_code
def yX4_init : MethodName := ⟨RX4, "<init>", "()V"⟩
abbrev cX4_become : ByteArray := prog_6_method_2_code
def yX4_become : MethodName := ⟨RX4, "become", "(III)V"⟩
abbrev cX4_hasBegun : ByteArray := prog_6_method_3_code
def yX4_hasBegun : MethodName := ⟨RX4, "hasBegun", "()Z"⟩
abbrev cX4_end : ByteArray := prog_6_method_4_code
def yX4_end : MethodName := ⟨RX4, "end", "()I"⟩
abbrev cX4_fillsRegister : ByteArray := prog_6_method_5_code
def yX4_fillsRegister : MethodName := ⟨RX4, "fillsRegister", "()Z"⟩
abbrev cX4_comesBehind : ByteArray := prog_6_method_6_code
def yX4_comesBehind : MethodName := ⟨RX4, "comesBehind", "(LCycleSynthesis$Operation;)Z"⟩
abbrev cX4_touchesGiven : ByteArray := prog_6_method_7_code
def yX4_touchesGiven : MethodName := ⟨RX4, "touchesGiven", "(LCycleSynthesis$Operation;)Z"⟩
abbrev cX4_usesGiven : ByteArray := prog_6_method_8_code
def yX4_usesGiven : MethodName := ⟨RX4, "usesGiven", "(LCycleSynthesis$Operation;)Z"⟩
abbrev cX4_uses : ByteArray := prog_6_method_9_code
def yX4_uses : MethodName := ⟨RX4, "uses", "(I)Z"⟩
abbrev cX4_kindOf : ByteArray := prog_6_method_10_code
def yX4_kindOf : MethodName := ⟨RX4, "kindOf", "(I)I"⟩
def RX5 : String := "CycleSynthesis$Program"
def TX5 : u_T := fun k => match k with
  | 0 => ("CycleSynthesis$Program", "operation", "[LCycleSynthesis$Operation;", true)
  | 1 => ("CycleSynthesis$Program", "block", "[LCycleSynthesis$Block;", true)
  | 2 => ("CycleSynthesis$Program", "operations", "I", false)
  | _ => ("CycleSynthesis$Program", "blocks", "I", false)
def tyX5 : Nat → FieldType := fun k => match k with
  | 0 => .array (.object "CycleSynthesis$Operation")
  | 1 => .array (.object "CycleSynthesis$Block")
  | 2 => .int
  | _ => .int
abbrev wsX50 : List Cond := u_ws RX5 TX5 4
theorem nmX5 : ∀ a, a < 4 → ∀ b, b < 4 → a ≠ b → (TX5 a).2.1 ≠ (TX5 b).2.1 := by decide +kernel
theorem tyX5_ok : ∀ k, k < 4 → parseFieldDescriptor (TX5 k).2.2.1 = some (tyX5 k) := by decide +kernel
abbrev cX5_init : ByteArray := prog_7_method_1_code
def yX5_init : MethodName := ⟨RX5, "<init>", "()V"⟩
abbrev cX5_clear : ByteArray := prog_7_method_2_code
def yX5_clear : MethodName := ⟨RX5, "clear", "()V"⟩
abbrev cX5_isFull : ByteArray := prog_7_method_3_code
def yX5_isFull : MethodName := ⟨RX5, "isFull", "()Z"⟩
abbrev cX5_addBlock : ByteArray := prog_7_method_4_code
def yX5_addBlock : MethodName := ⟨RX5, "addBlock", "()LCycleSynthesis$Block;"⟩
abbrev cX5_addOperation : ByteArray := prog_7_method_5_code
def yX5_addOperation : MethodName := ⟨RX5, "addOperation", "(III)LCycleSynthesis$Operation;"⟩
abbrev cX5_allCycles : ByteArray := prog_7_method_6_code
def yX5_allCycles : MethodName := ⟨RX5, "allCycles", "()I"⟩
abbrev cX5_usedRegisters : ByteArray := prog_7_method_7_code
def yX5_usedRegisters : MethodName := ⟨RX5, "usedRegisters", "()I"⟩
abbrev cX5_usedUnits : ByteArray := prog_7_method_8_code
def yX5_usedUnits : MethodName := ⟨RX5, "usedUnits", "(I)I"⟩
def RX6 : String := "CycleSynthesis$Reader"
def TX6 : u_T := fun k => match k with
  | 0 => ("CycleSynthesis$Reader", "tape", "LCycleSynthesis$Tape;", true)
  | _ => ("CycleSynthesis$Reader", "place", "I", false)
def tyX6 : Nat → FieldType := fun k => match k with
  | 0 => .object "CycleSynthesis$Tape"
  | _ => .int
abbrev wsX60 : List Cond := u_ws RX6 TX6 2
theorem nmX6 : ∀ a, a < 2 → ∀ b, b < 2 → a ≠ b → (TX6 a).2.1 ≠ (TX6 b).2.1 := by decide +kernel
theorem tyX6_ok : ∀ k, k < 2 → parseFieldDescriptor (TX6 k).2.2.1 = some (tyX6 k) := by decide +kernel
abbrev cX6_init : ByteArray := prog_8_method_1_code
def yX6_init : MethodName := ⟨RX6, "<init>", "(LCycleSynthesis$Tape;)V"⟩
abbrev cX6_rewind : ByteArray := prog_8_method_2_code
def yX6_rewind : MethodName := ⟨RX6, "rewind", "()V"⟩
abbrev cX6_look : ByteArray := prog_8_method_3_code
def yX6_look : MethodName := ⟨RX6, "look", "()I"⟩
abbrev cX6_pass : ByteArray := prog_8_method_4_code
def yX6_pass : MethodName := ⟨RX6, "pass", "(I)V"⟩
abbrev cX6_seesWord : ByteArray := prog_8_method_5_code
def yX6_seesWord : MethodName := ⟨RX6, "seesWord", "(Ljava/lang/String;)Z"⟩
abbrev cX6_seenVariable : ByteArray := prog_8_method_6_code
def yX6_seenVariable : MethodName := ⟨RX6, "seenVariable", "()I"⟩
abbrev cX6_seesFigure : ByteArray := prog_8_method_7_code
def yX6_seesFigure : MethodName := ⟨RX6, "seesFigure", "()Z"⟩
abbrev cX6_seesLetter : ByteArray := prog_8_method_8_code
def yX6_seesLetter : MethodName := ⟨RX6, "seesLetter", "()Z"⟩
abbrev cX6_readNumber : ByteArray := prog_8_method_9_code
def yX6_readNumber : MethodName := ⟨RX6, "readNumber", "()J"⟩
abbrev cX6_lettersHere : ByteArray := prog_8_method_10_code
def yX6_lettersHere : MethodName := ⟨RX6, "lettersHere", "()I"⟩
abbrev cX6_isFigure : ByteArray := prog_8_method_11_code
def yX6_isFigure : MethodName := ⟨RX6, "isFigure", "(I)Z"⟩
abbrev cX6_isLetter : ByteArray := prog_8_method_12_code
def yX6_isLetter : MethodName := ⟨RX6, "isLetter", "(I)Z"⟩
def RX7 : String := "CycleSynthesis$Tape"
def TX7 : u_T := fun k => match k with
  | 0 => ("CycleSynthesis$Tape", "bytes", "[I", true)
  | _ => ("CycleSynthesis$Tape", "length", "I", false)
def tyX7 : Nat → FieldType := fun k => match k with
  | 0 => .array .int
  | _ => .int
abbrev wsX70 : List Cond := u_ws RX7 TX7 2
theorem nmX7 : ∀ a, a < 2 → ∀ b, b < 2 → a ≠ b → (TX7 a).2.1 ≠ (TX7 b).2.1 := by decide +kernel
theorem tyX7_ok : ∀ k, k < 2 → parseFieldDescriptor (TX7 k).2.2.1 = some (tyX7 k) := by decide +kernel
abbrev cX7_init : ByteArray := prog_9_method_1_code
def yX7_init : MethodName := ⟨RX7, "<init>", "()V"⟩
abbrev cX7_append : ByteArray := prog_9_method_2_code
def yX7_append : MethodName := ⟨RX7, "append", "(IJ)Z"⟩
abbrev cX7_clear : ByteArray := prog_9_method_3_code
def yX7_clear : MethodName := ⟨RX7, "clear", "()I"⟩
def RX8 : String := "CycleSynthesis$Translator"
def TX8 : u_T := fun k => match k with
  | 0 => ("CycleSynthesis$Translator", "reader", "LCycleSynthesis$Reader;", true)
  | 1 => ("CycleSynthesis$Translator", "ways", "LCycleSynthesis$Ways;", true)
  | 2 => ("CycleSynthesis$Translator", "program", "LCycleSynthesis$Program;", false)
  | 3 => ("CycleSynthesis$Translator", "braces", "I", false)
  | 4 => ("CycleSynthesis$Translator", "brackets", "I", false)
  | 5 => ("CycleSynthesis$Translator", "fault", "I", false)
  | _ => ("CycleSynthesis$Translator", "place", "I", false)
def tyX8 : Nat → FieldType := fun k => match k with
  | 0 => .object "CycleSynthesis$Reader"
  | 1 => .object "CycleSynthesis$Ways"
  | 2 => .object "CycleSynthesis$Program"
  | 3 => .int
  | 4 => .int
  | 5 => .int
  | _ => .int
abbrev wsX80 : List Cond := u_ws RX8 TX8 7
theorem nmX8 : ∀ a, a < 7 → ∀ b, b < 7 → a ≠ b → (TX8 a).2.1 ≠ (TX8 b).2.1 := by decide +kernel
theorem tyX8_ok : ∀ k, k < 7 → parseFieldDescriptor (TX8 k).2.2.1 = some (tyX8 k) := by decide +kernel
abbrev cX8_init : ByteArray := prog_10_method_1_code
def yX8_init : MethodName := ⟨RX8, "<init>", "(LCycleSynthesis$Tape;)V"⟩
abbrev cX8_translate : ByteArray := prog_10_method_2_code
def yX8_translate : MethodName := ⟨RX8, "translate", "(LCycleSynthesis$Program;)Z"⟩
abbrev cX8_statements : ByteArray := prog_10_method_3_code
def yX8_statements : MethodName := ⟨RX8, "statements", "()Z"⟩
abbrev cX8_statement : ByteArray := prog_10_method_4_code
def yX8_statement : MethodName := ⟨RX8, "statement", "()Z"⟩
abbrev cX8_assignment : ByteArray := prog_10_method_5_code
def yX8_assignment : MethodName := ⟨RX8, "assignment", "(I)Z"⟩
abbrev cX8_write : ByteArray := prog_10_method_6_code
def yX8_write : MethodName := ⟨RX8, "write", "()Z"⟩
abbrev cX8_ifStatement : ByteArray := prog_10_method_7_code
def yX8_ifStatement : MethodName := ⟨RX8, "ifStatement", "()Z"⟩
abbrev cX8_whileStatement : ByteArray := prog_10_method_8_code
def yX8_whileStatement : MethodName := ⟨RX8, "whileStatement", "()Z"⟩
abbrev cX8_choice : ByteArray := prog_10_method_9_code
def yX8_choice : MethodName := ⟨RX8, "choice", "(II)Z"⟩
abbrev cX8_body : ByteArray := prog_10_method_10_code
def yX8_body : MethodName := ⟨RX8, "body", "(I)Z"⟩
abbrev cX8_expression : ByteArray := prog_10_method_11_code
def yX8_expression : MethodName := ⟨RX8, "expression", "()I"⟩
abbrev cX8_sum : ByteArray := prog_10_method_12_code
def yX8_sum : MethodName := ⟨RX8, "sum", "()I"⟩
abbrev cX8_term : ByteArray := prog_10_method_13_code
def yX8_term : MethodName := ⟨RX8, "term", "()I"⟩
abbrev cX8_factor : ByteArray := prog_10_method_14_code
def yX8_factor : MethodName := ⟨RX8, "factor", "()I"⟩
abbrev cX8_number : ByteArray := prog_10_method_15_code
def yX8_number : MethodName := ⟨RX8, "number", "()I"⟩
abbrev cX8_read : ByteArray := prog_10_method_16_code
def yX8_read : MethodName := ⟨RX8, "read", "()I"⟩
abbrev cX8_enclosed : ByteArray := prog_10_method_17_code
def yX8_enclosed : MethodName := ⟨RX8, "enclosed", "(II)I"⟩
abbrev cX8_add : ByteArray := prog_10_method_18_code
def yX8_add : MethodName := ⟨RX8, "add", "(IIII)I"⟩
abbrev cX8_meets : ByteArray := prog_10_method_19_code
def yX8_meets : MethodName := ⟨RX8, "meets", "(I)Z"⟩
abbrev cX8_passes : ByteArray := prog_10_method_20_code
def yX8_passes : MethodName := ⟨RX8, "passes", "(I)Z"⟩
abbrev cX8_refuseHere : ByteArray := prog_10_method_21_code
def yX8_refuseHere : MethodName := ⟨RX8, "refuseHere", "(I)Z"⟩
abbrev cX8_refuse : ByteArray := prog_10_method_22_code
def yX8_refuse : MethodName := ⟨RX8, "refuse", "(II)Z"⟩
def RX9 : String := "CycleSynthesis$Ways"
def TX9 : u_T := fun k => match k with
  | 0 => ("CycleSynthesis$Ways", "begins", "[I", true)
  | 1 => ("CycleSynthesis$Ways", "onward", "[I", true)
  | 2 => ("CycleSynthesis$Ways", "joints", "I", false)
  | 3 => ("CycleSynthesis$Ways", "program", "LCycleSynthesis$Program;", false)
  | 4 => ("CycleSynthesis$Ways", "open", "LCycleSynthesis$Block;", false)
  | _ => ("CycleSynthesis$Ways", "here", "I", false)
def tyX9 : Nat → FieldType := fun k => match k with
  | 0 => .array .int
  | 1 => .array .int
  | 2 => .int
  | 3 => .object "CycleSynthesis$Program"
  | 4 => .object "CycleSynthesis$Block"
  | _ => .int
abbrev wsX90 : List Cond := u_ws RX9 TX9 6
theorem nmX9 : ∀ a, a < 6 → ∀ b, b < 6 → a ≠ b → (TX9 a).2.1 ≠ (TX9 b).2.1 := by decide +kernel
theorem tyX9_ok : ∀ k, k < 6 → parseFieldDescriptor (TX9 k).2.2.1 = some (tyX9 k) := by decide +kernel
abbrev cX9_init : ByteArray := prog_11_method_1_code
def yX9_init : MethodName := ⟨RX9, "<init>", "()V"⟩
abbrev cX9_start : ByteArray := prog_11_method_2_code
def yX9_start : MethodName := ⟨RX9, "start", "(LCycleSynthesis$Program;)V"⟩
abbrev cX9_addJoint : ByteArray := prog_11_method_3_code
def yX9_addJoint : MethodName := ⟨RX9, "addJoint", "()I"⟩
abbrev cX9_standAt : ByteArray := prog_11_method_4_code
def yX9_standAt : MethodName := ⟨RX9, "standAt", "(I)V"⟩
abbrev cX9_openBlock : ByteArray := prog_11_method_5_code
def yX9_openBlock : MethodName := ⟨RX9, "openBlock", "()V"⟩
abbrev cX9_choose : ByteArray := prog_11_method_6_code
def yX9_choose : MethodName := ⟨RX9, "choose", "(III)V"⟩
abbrev cX9_goTo : ByteArray := prog_11_method_7_code
def yX9_goTo : MethodName := ⟨RX9, "goTo", "(I)V"⟩
abbrev cX9_settle : ByteArray := prog_11_method_8_code
def yX9_settle : MethodName := ⟨RX9, "settle", "()V"⟩
abbrev cX9_blockFrom : ByteArray := prog_11_method_9_code
def yX9_blockFrom : MethodName := ⟨RX9, "blockFrom", "(I)I"⟩
def RX10 : String := "CycleSynthesis"
def TX10 : u_T := fun k => match k with
  | 0 => ("CycleSynthesis", "tape", "LCycleSynthesis$Tape;", true)
  | 1 => ("CycleSynthesis", "translator", "LCycleSynthesis$Translator;", true)
  | 2 => ("CycleSynthesis", "layer", "LCycleSynthesis$Layer;", true)
  | 3 => ("CycleSynthesis", "machine", "LCycleSynthesis$Machine;", true)
  | 4 => ("CycleSynthesis", "program", "LCycleSynthesis$Program;", false)
  | _ => ("CycleSynthesis", "spare", "LCycleSynthesis$Program;", false)
def tyX10 : Nat → FieldType := fun k => match k with
  | 0 => .object "CycleSynthesis$Tape"
  | 1 => .object "CycleSynthesis$Translator"
  | 2 => .object "CycleSynthesis$Layer"
  | 3 => .object "CycleSynthesis$Machine"
  | 4 => .object "CycleSynthesis$Program"
  | _ => .object "CycleSynthesis$Program"
abbrev wsX100 : List Cond := u_ws RX10 TX10 6
theorem nmX10 : ∀ a, a < 6 → ∀ b, b < 6 → a ≠ b → (TX10 a).2.1 ≠ (TX10 b).2.1 := by decide +kernel
theorem tyX10_ok : ∀ k, k < 6 → parseFieldDescriptor (TX10 k).2.2.1 = some (tyX10 k) := by decide +kernel
abbrev cX10_init : ByteArray := prog_1_method_1_code
def yX10_init : MethodName := ⟨RX10, "<init>", "()V"⟩
abbrev cX10_feed : ByteArray := prog_1_method_2_code
def yX10_feed : MethodName := ⟨RX10, "feed", "(IJ)I"⟩
abbrev cX10_wipe : ByteArray := prog_1_method_3_code
def yX10_wipe : MethodName := ⟨RX10, "wipe", "()I"⟩
abbrev cX10_units : ByteArray := prog_1_method_4_code
def yX10_units : MethodName := ⟨RX10, "units", "(III)V"⟩
abbrev cX10_compile : ByteArray := prog_1_method_5_code
def yX10_compile : MethodName := ⟨RX10, "compile", "()I"⟩
abbrev cX10_fault : ByteArray := prog_1_method_6_code
def yX10_fault : MethodName := ⟨RX10, "fault", "()I"⟩
abbrev cX10_place : ByteArray := prog_1_method_7_code
def yX10_place : MethodName := ⟨RX10, "place", "()I"⟩
abbrev cX10_told : ByteArray := prog_1_method_8_code
def yX10_told : MethodName := ⟨RX10, "told", "(I)I"⟩
abbrev cX10_block : ByteArray := prog_1_method_9_code
def yX10_block : MethodName := ⟨RX10, "block", "(II)I"⟩
abbrev cX10_operation : ByteArray := prog_1_method_10_code
def yX10_operation : MethodName := ⟨RX10, "operation", "(II)I"⟩
abbrev cX10_set : ByteArray := prog_1_method_11_code
def yX10_set : MethodName := ⟨RX10, "set", "(II)I"⟩
abbrev cX10_get : ByteArray := prog_1_method_12_code
def yX10_get : MethodName := ⟨RX10, "get", "(I)I"⟩
abbrev cX10_poke : ByteArray := prog_1_method_13_code
def yX10_poke : MethodName := ⟨RX10, "poke", "(II)I"⟩
abbrev cX10_peek : ByteArray := prog_1_method_14_code
def yX10_peek : MethodName := ⟨RX10, "peek", "(I)I"⟩
abbrev cX10_restart : ByteArray := prog_1_method_15_code
def yX10_restart : MethodName := ⟨RX10, "restart", "()V"⟩
abbrev cX10_run : ByteArray := prog_1_method_16_code
def yX10_run : MethodName := ⟨RX10, "run", "(I)I"⟩
abbrev cX10_at : ByteArray := prog_1_method_17_code
def yX10_at : MethodName := ⟨RX10, "at", "()I"⟩
abbrev cX10_cycles : ByteArray := prog_1_method_18_code
def yX10_cycles : MethodName := ⟨RX10, "cycles", "()J"⟩
def RX11 : String := "CycleSynthesisModel"
def TX11 : u_T := fun k => match k with
  | 0 => ("CycleSynthesisModel", "thrown", "I", false)
  | 1 => ("CycleSynthesisModel", "tape", "[I", true)
  | 2 => ("CycleSynthesisModel", "size", "I", false)
  | 3 => ("CycleSynthesisModel", "fault", "I", false)
  | 4 => ("CycleSynthesisModel", "place", "I", false)
  | 5 => ("CycleSynthesisModel", "at", "I", false)
  | 6 => ("CycleSynthesisModel", "brackets", "I", false)
  | 7 => ("CycleSynthesisModel", "braces", "I", false)
  | 8 => ("CycleSynthesisModel", "operandSort", "I", false)
  | 9 => ("CycleSynthesisModel", "operandValue", "I", false)
  | 10 => ("CycleSynthesisModel", "newCount", "I", false)
  | 11 => ("CycleSynthesisModel", "newCodes", "[I", true)
  | 12 => ("CycleSynthesisModel", "newSorts", "[I", true)
  | 13 => ("CycleSynthesisModel", "newValues", "[I", true)
  | 14 => ("CycleSynthesisModel", "newGives", "[I", true)
  | 15 => ("CycleSynthesisModel", "newBlocks", "[I", true)
  | 16 => ("CycleSynthesisModel", "newBlockCount", "I", false)
  | 17 => ("CycleSynthesisModel", "newEndSort", "[I", true)
  | 18 => ("CycleSynthesisModel", "newEndValue", "[I", true)
  | 19 => ("CycleSynthesisModel", "newGo", "[I", true)
  | 20 => ("CycleSynthesisModel", "newElse", "[I", true)
  | 21 => ("CycleSynthesisModel", "newHasEnd", "[Z", true)
  | 22 => ("CycleSynthesisModel", "current", "I", false)
  | 23 => ("CycleSynthesisModel", "ways", "[I", true)
  | 24 => ("CycleSynthesisModel", "wayCount", "I", false)
  | 25 => ("CycleSynthesisModel", "count", "I", false)
  | 26 => ("CycleSynthesisModel", "codes", "[I", true)
  | 27 => ("CycleSynthesisModel", "sorts", "[I", true)
  | 28 => ("CycleSynthesisModel", "values", "[I", true)
  | 29 => ("CycleSynthesisModel", "gives", "[I", true)
  | 30 => ("CycleSynthesisModel", "blockOf", "[I", true)
  | 31 => ("CycleSynthesisModel", "blocks", "I", false)
  | 32 => ("CycleSynthesisModel", "endSort", "[I", true)
  | 33 => ("CycleSynthesisModel", "endValue", "[I", true)
  | 34 => ("CycleSynthesisModel", "go", "[I", true)
  | 35 => ("CycleSynthesisModel", "other", "[I", true)
  | 36 => ("CycleSynthesisModel", "hasEnd", "[Z", true)
  | 37 => ("CycleSynthesisModel", "many", "[I", true)
  | 38 => ("CycleSynthesisModel", "latency", "[I", true)
  | 39 => ("CycleSynthesisModel", "heights", "[I", true)
  | 40 => ("CycleSynthesisModel", "begins", "[I", true)
  | 41 => ("CycleSynthesisModel", "units", "[I", true)
  | 42 => ("CycleSynthesisModel", "registers", "[I", true)
  | 43 => ("CycleSynthesisModel", "lengths", "[I", true)
  | 44 => ("CycleSynthesisModel", "variables", "[I", true)
  | 45 => ("CycleSynthesisModel", "memory", "[I", true)
  | 46 => ("CycleSynthesisModel", "results", "[I", true)
  | 47 => ("CycleSynthesisModel", "now", "I", false)
  | 48 => ("CycleSynthesisModel", "cycles", "J", false)
  | 49 => ("CycleSynthesisModel", "waysFrom", "I", false)
  | _ => ("CycleSynthesisModel", "held", "[I", true)
def tyX11 : Nat → FieldType := fun k => match k with
  | 0 => .int
  | 1 => .array .int
  | 2 => .int
  | 3 => .int
  | 4 => .int
  | 5 => .int
  | 6 => .int
  | 7 => .int
  | 8 => .int
  | 9 => .int
  | 10 => .int
  | 11 => .array .int
  | 12 => .array .int
  | 13 => .array .int
  | 14 => .array .int
  | 15 => .array .int
  | 16 => .int
  | 17 => .array .int
  | 18 => .array .int
  | 19 => .array .int
  | 20 => .array .int
  | 21 => .array .boolean
  | 22 => .int
  | 23 => .array .int
  | 24 => .int
  | 25 => .int
  | 26 => .array .int
  | 27 => .array .int
  | 28 => .array .int
  | 29 => .array .int
  | 30 => .array .int
  | 31 => .int
  | 32 => .array .int
  | 33 => .array .int
  | 34 => .array .int
  | 35 => .array .int
  | 36 => .array .boolean
  | 37 => .array .int
  | 38 => .array .int
  | 39 => .array .int
  | 40 => .array .int
  | 41 => .array .int
  | 42 => .array .int
  | 43 => .array .int
  | 44 => .array .int
  | 45 => .array .int
  | 46 => .array .int
  | 47 => .int
  | 48 => .long
  | 49 => .int
  | _ => .array .int
abbrev wsX110 : List Cond := u_ws RX11 TX11 51
theorem nmX11 : ∀ a, a < 51 → ∀ b, b < 51 → a ≠ b → (TX11 a).2.1 ≠ (TX11 b).2.1 := by decide +kernel
theorem tyX11_ok : ∀ k, k < 51 → parseFieldDescriptor (TX11 k).2.2.1 = some (tyX11 k) := by decide +kernel
abbrev cX11_init : ByteArray := prog_13_method_1_code
def yX11_init : MethodName := ⟨RX11, "<init>", "()V"⟩
abbrev cX11_thrown : ByteArray := prog_13_method_2_code
def yX11_thrown : MethodName := ⟨RX11, "thrown", "()I"⟩
abbrev cX11_feed : ByteArray := prog_13_method_3_code
def yX11_feed : MethodName := ⟨RX11, "feed", "(IJ)I"⟩
abbrev cX11_wipe : ByteArray := prog_13_method_4_code
def yX11_wipe : MethodName := ⟨RX11, "wipe", "()I"⟩
abbrev cX11_fail : ByteArray := prog_13_method_5_code
def yX11_fail : MethodName := ⟨RX11, "fail", "(II)V"⟩
abbrev cX11_byteAt : ByteArray := prog_13_method_6_code
def yX11_byteAt : MethodName := ⟨RX11, "byteAt", "(I)I"⟩
abbrev cX11_isLetter : ByteArray := prog_13_method_7_code
def yX11_isLetter : MethodName := ⟨RX11, "isLetter", "(I)Z"⟩
abbrev cX11_isFigure : ByteArray := prog_13_method_8_code
def yX11_isFigure : MethodName := ⟨RX11, "isFigure", "(I)Z"⟩
abbrev cX11_next : ByteArray := prog_13_method_9_code
def yX11_next : MethodName := ⟨RX11, "next", "()I"⟩
abbrev cX11_want : ByteArray := prog_13_method_10_code
def yX11_want : MethodName := ⟨RX11, "want", "(I)V"⟩
abbrev cX11_wordSize : ByteArray := prog_13_method_11_code
def yX11_wordSize : MethodName := ⟨RX11, "wordSize", "(I)I"⟩
abbrev cX11_word : ByteArray := prog_13_method_12_code
def yX11_word : MethodName := ⟨RX11, "word", "()I"⟩
abbrev cX11_way : ByteArray := prog_13_method_13_code
def yX11_way : MethodName := ⟨RX11, "way", "(IZ)V"⟩
abbrev cX11_lead : ByteArray := prog_13_method_14_code
def yX11_lead : MethodName := ⟨RX11, "lead", "(II)V"⟩
abbrev cX11_needBlock : ByteArray := prog_13_method_15_code
def yX11_needBlock : MethodName := ⟨RX11, "needBlock", "()V"⟩
abbrev cX11_emit : ByteArray := prog_13_method_16_code
def yX11_emit : MethodName := ⟨RX11, "emit", "(IIII)I"⟩
abbrev cX11_open : ByteArray := prog_13_method_17_code
def yX11_open : MethodName := ⟨RX11, "open", "()V"⟩
abbrev cX11_number : ByteArray := prog_13_method_18_code
def yX11_number : MethodName := ⟨RX11, "number", "()V"⟩
abbrev cX11_factor : ByteArray := prog_13_method_19_code
def yX11_factor : MethodName := ⟨RX11, "factor", "()V"⟩
abbrev cX11_join : ByteArray := prog_13_method_20_code
def yX11_join : MethodName := ⟨RX11, "join", "(IIII)V"⟩
abbrev cX11_term : ByteArray := prog_13_method_21_code
def yX11_term : MethodName := ⟨RX11, "term", "()V"⟩
abbrev cX11_sum : ByteArray := prog_13_method_22_code
def yX11_sum : MethodName := ⟨RX11, "sum", "()V"⟩
abbrev cX11_expression : ByteArray := prog_13_method_23_code
def yX11_expression : MethodName := ⟨RX11, "expression", "()V"⟩
abbrev cX11_assignment : ByteArray := prog_13_method_24_code
def yX11_assignment : MethodName := ⟨RX11, "assignment", "()V"⟩
abbrev cX11_writing : ByteArray := prog_13_method_25_code
def yX11_writing : MethodName := ⟨RX11, "writing", "()V"⟩
abbrev cX11_inBraces : ByteArray := prog_13_method_26_code
def yX11_inBraces : MethodName := ⟨RX11, "inBraces", "()V"⟩
abbrev cX11_endBlock : ByteArray := prog_13_method_27_code
def yX11_endBlock : MethodName := ⟨RX11, "endBlock", "()I"⟩
abbrev cX11_leaveOpen : ByteArray := prog_13_method_28_code
def yX11_leaveOpen : MethodName := ⟨RX11, "leaveOpen", "()V"⟩
abbrev cX11_choice : ByteArray := prog_13_method_29_code
def yX11_choice : MethodName := ⟨RX11, "choice", "()V"⟩
abbrev cX11_loop : ByteArray := prog_13_method_30_code
def yX11_loop : MethodName := ⟨RX11, "loop", "()V"⟩
abbrev cX11_statements : ByteArray := prog_13_method_31_code
def yX11_statements : MethodName := ⟨RX11, "statements", "()V"⟩
abbrev cX11_compile : ByteArray := prog_13_method_32_code
def yX11_compile : MethodName := ⟨RX11, "compile", "()I"⟩
abbrev cX11_keepProgram : ByteArray := prog_13_method_33_code
def yX11_keepProgram : MethodName := ⟨RX11, "keepProgram", "()V"⟩
abbrev cX11_fault : ByteArray := prog_13_method_34_code
def yX11_fault : MethodName := ⟨RX11, "fault", "()I"⟩
abbrev cX11_place : ByteArray := prog_13_method_35_code
def yX11_place : MethodName := ⟨RX11, "place", "()I"⟩
abbrev cX11_kindOf : ByteArray := prog_13_method_36_code
def yX11_kindOf : MethodName := ⟨RX11, "kindOf", "(I)I"⟩
abbrev cX11_usesVariable : ByteArray := prog_13_method_37_code
def yX11_usesVariable : MethodName := ⟨RX11, "usesVariable", "(II)Z"⟩
abbrev cX11_usesValue : ByteArray := prog_13_method_38_code
def yX11_usesValue : MethodName := ⟨RX11, "usesValue", "(II)Z"⟩
abbrev cX11_comesBehind : ByteArray := prog_13_method_39_code
def yX11_comesBehind : MethodName := ⟨RX11, "comesBehind", "(II)Z"⟩
abbrev cX11_first : ByteArray := prog_13_method_40_code
def yX11_first : MethodName := ⟨RX11, "first", "(I)I"⟩
abbrev cX11_behindAll : ByteArray := prog_13_method_41_code
def yX11_behindAll : MethodName := ⟨RX11, "behindAll", "(I)I"⟩
abbrev cX11_latencyOf : ByteArray := prog_13_method_42_code
def yX11_latencyOf : MethodName := ⟨RX11, "latencyOf", "(I)I"⟩
abbrev cX11_endOf : ByteArray := prog_13_method_43_code
def yX11_endOf : MethodName := ⟨RX11, "endOf", "(I)I"⟩
abbrev cX11_isReady : ByteArray := prog_13_method_44_code
def yX11_isReady : MethodName := ⟨RX11, "isReady", "(III)Z"⟩
abbrev cX11_freeUnit : ByteArray := prog_13_method_45_code
def yX11_freeUnit : MethodName := ⟨RX11, "freeUnit", "(III)I"⟩
abbrev cX11_beginOne : ByteArray := prog_13_method_46_code
def yX11_beginOne : MethodName := ⟨RX11, "beginOne", "(II)Z"⟩
abbrev cX11_layBlock : ByteArray := prog_13_method_47_code
def yX11_layBlock : MethodName := ⟨RX11, "layBlock", "(I)V"⟩
abbrev cX11_isEnd : ByteArray := prog_13_method_48_code
def yX11_isEnd : MethodName := ⟨RX11, "isEnd", "(II)Z"⟩
abbrev cX11_heldTo : ByteArray := prog_13_method_49_code
def yX11_heldTo : MethodName := ⟨RX11, "heldTo", "(I)I"⟩
abbrev cX11_holds : ByteArray := prog_13_method_50_code
def yX11_holds : MethodName := ⟨RX11, "holds", "(I)Z"⟩
abbrev cX11_meet : ByteArray := prog_13_method_51_code
def yX11_meet : MethodName := ⟨RX11, "meet", "(II)Z"⟩
abbrev cX11_isBefore : ByteArray := prog_13_method_52_code
def yX11_isBefore : MethodName := ⟨RX11, "isBefore", "(II)Z"⟩
abbrev cX11_bindOne : ByteArray := prog_13_method_53_code
def yX11_bindOne : MethodName := ⟨RX11, "bindOne", "(I)V"⟩
abbrev cX11_bindRegisters : ByteArray := prog_13_method_54_code
def yX11_bindRegisters : MethodName := ⟨RX11, "bindRegisters", "()V"⟩
abbrev cX11_lay : ByteArray := prog_13_method_55_code
def yX11_lay : MethodName := ⟨RX11, "lay", "()V"⟩
abbrev cX11_units : ByteArray := prog_13_method_56_code
def yX11_units : MethodName := ⟨RX11, "units", "(III)V"⟩
abbrev cX11_told : ByteArray := prog_13_method_57_code
def yX11_told : MethodName := ⟨RX11, "told", "(I)I"⟩
abbrev cX11_block : ByteArray := prog_13_method_58_code
def yX11_block : MethodName := ⟨RX11, "block", "(II)I"⟩
abbrev cX11_operation : ByteArray := prog_13_method_59_code
def yX11_operation : MethodName := ⟨RX11, "operation", "(II)I"⟩
abbrev cX11_set : ByteArray := prog_13_method_60_code
def yX11_set : MethodName := ⟨RX11, "set", "(II)I"⟩
abbrev cX11_get : ByteArray := prog_13_method_61_code
def yX11_get : MethodName := ⟨RX11, "get", "(I)I"⟩
abbrev cX11_poke : ByteArray := prog_13_method_62_code
def yX11_poke : MethodName := ⟨RX11, "poke", "(II)I"⟩
abbrev cX11_peek : ByteArray := prog_13_method_63_code
def yX11_peek : MethodName := ⟨RX11, "peek", "(I)I"⟩
abbrev cX11_stand : ByteArray := prog_13_method_64_code
def yX11_stand : MethodName := ⟨RX11, "stand", "()V"⟩
abbrev cX11_restart : ByteArray := prog_13_method_65_code
def yX11_restart : MethodName := ⟨RX11, "restart", "()V"⟩
abbrev cX11_look : ByteArray := prog_13_method_66_code
def yX11_look : MethodName := ⟨RX11, "look", "(II)I"⟩
abbrev cX11_doOperation : ByteArray := prog_13_method_67_code
def yX11_doOperation : MethodName := ⟨RX11, "doOperation", "(I)V"⟩
abbrev cX11_run : ByteArray := prog_13_method_68_code
def yX11_run : MethodName := ⟨RX11, "run", "(I)I"⟩
abbrev cX11_at : ByteArray := prog_13_method_69_code
def yX11_at : MethodName := ⟨RX11, "at", "()I"⟩
abbrev cX11_cycles : ByteArray := prog_13_method_70_code
def yX11_cycles : MethodName := ⟨RX11, "cycles", "()J"⟩
def RJ9 : String := "java/lang/Math"
def TJ9 : u_T := fun k => match k with
  | _ => ("", "", "", false)
def tyJ9 : Nat → FieldType := fun k => match k with
  | _ => .int
abbrev wsJ90 : List Cond := u_ws RJ9 TJ9 0
theorem nmJ9 : ∀ a, a < 0 → ∀ b, b < 0 → a ≠ b → (TJ9 a).2.1 ≠ (TJ9 b).2.1 := by decide +kernel
theorem tyJ9_ok : ∀ k, k < 0 → parseFieldDescriptor (TJ9 k).2.2.1 = some (tyJ9 k) := by decide +kernel
abbrev cJ9_max_7cf53 : ByteArray := prog_17_method_65_code
def yJ9_max_7cf53 : MethodName := ⟨RJ9, "max", "(II)I"⟩
abbrev cJ9_min_f86c9 : ByteArray := prog_17_method_70_code
def yJ9_min_f86c9 : MethodName := ⟨RJ9, "min", "(JJ)J"⟩
def RJ0 : String := "java/lang/String"
def TJ0 : u_T := fun k => match k with
  | _ => ("", "", "", false)
def tyJ0 : Nat → FieldType := fun k => match k with
  | _ => .int
abbrev wsJ00 : List Cond := u_ws RJ0 TJ0 0
theorem nmJ0 : ∀ a, a < 0 → ∀ b, b < 0 → a ≠ b → (TJ0 a).2.1 ≠ (TJ0 b).2.1 := by decide +kernel
theorem tyJ0_ok : ∀ k, k < 0 → parseFieldDescriptor (TJ0 k).2.2.1 = some (tyJ0 k) := by decide +kernel
abbrev cJ0_length_8abf5 : ByteArray := prog_19_method_54_code
def yJ0_length_8abf5 : MethodName := ⟨RJ0, "length", "()I"⟩
abbrev cJ0_charAt_5068e : ByteArray := prog_19_method_56_code
def yJ0_charAt_5068e : MethodName := ⟨RJ0, "charAt", "(I)C"⟩
abbrev cJ0_coder_7d493 : ByteArray := prog_19_method_152_code
def yJ0_coder_7d493 : MethodName := ⟨RJ0, "coder", "()B"⟩
abbrev cJ0_isLatin1_aae02 : ByteArray := prog_19_method_154_code
def yJ0_isLatin1_aae02 : MethodName := ⟨RJ0, "isLatin1", "()Z"⟩
abbrev cJ0_checkIndex_df160 : ByteArray := prog_19_method_155_code
def yJ0_checkIndex_df160 : MethodName := ⟨RJ0, "checkIndex", "(II)V"⟩
def RJ1 : String := "java/lang/StringLatin1"
def TJ1 : u_T := fun k => match k with
  | _ => ("", "", "", false)
def tyJ1 : Nat → FieldType := fun k => match k with
  | _ => .int
abbrev wsJ10 : List Cond := u_ws RJ1 TJ1 0
theorem nmJ1 : ∀ a, a < 0 → ∀ b, b < 0 → a ≠ b → (TJ1 a).2.1 ≠ (TJ1 b).2.1 := by decide +kernel
theorem tyJ1_ok : ∀ k, k < 0 → parseFieldDescriptor (TJ1 k).2.2.1 = some (tyJ1 k) := by decide +kernel
abbrev cJ1_charAt_3b067 : ByteArray := prog_20_method_2_code
def yJ1_charAt_3b067 : MethodName := ⟨RJ1, "charAt", "([BI)C"⟩
def RJ2 : String := "java/lang/StringUTF16"
def TJ2 : u_T := fun k => match k with
  | _ => ("", "", "", false)
def tyJ2 : Nat → FieldType := fun k => match k with
  | _ => .int
abbrev wsJ20 : List Cond := u_ws RJ2 TJ2 0
theorem nmJ2 : ∀ a, a < 0 → ∀ b, b < 0 → a ≠ b → (TJ2 a).2.1 ≠ (TJ2 b).2.1 := by decide +kernel
theorem tyJ2_ok : ∀ k, k < 0 → parseFieldDescriptor (TJ2 k).2.2.1 = some (tyJ2 k) := by decide +kernel
abbrev cJ2_getChar_3b067 : ByteArray := prog_21_method_5_code
def yJ2_getChar_3b067 : MethodName := ⟨RJ2, "getChar", "([BI)C"⟩
abbrev cJ2_length_9d52b : ByteArray := prog_21_method_6_code
def yJ2_length_9d52b : MethodName := ⟨RJ2, "length", "([B)I"⟩
abbrev cJ2_charAt_3b067 : ByteArray := prog_21_method_83_code
def yJ2_charAt_3b067 : MethodName := ⟨RJ2, "charAt", "([BI)C"⟩
abbrev cJ2_checkIndex_2214a : ByteArray := prog_21_method_91_code
def yJ2_checkIndex_2214a : MethodName := ⟨RJ2, "checkIndex", "(I[B)V"⟩
def RJ3 : String := "jdk/internal/util/Preconditions"
def TJ3 : u_T := fun k => match k with
  | _ => ("", "", "", false)
def tyJ3 : Nat → FieldType := fun k => match k with
  | _ => .int
abbrev wsJ30 : List Cond := u_ws RJ3 TJ3 0
theorem nmJ3 : ∀ a, a < 0 → ∀ b, b < 0 → a ≠ b → (TJ3 a).2.1 ≠ (TJ3 b).2.1 := by decide +kernel
theorem tyJ3_ok : ∀ k, k < 0 → parseFieldDescriptor (TJ3 k).2.2.1 = some (tyJ3 k) := by decide +kernel
abbrev cJ3_checkIndex_8e157 : ByteArray := prog_23_method_11_code
def yJ3_checkIndex_8e157 : MethodName := ⟨RJ3, "checkIndex", "(IILjava/util/function/BiFunction;)I"⟩
def RL : String := "CycleSynthesisLaw"
abbrev cL_feed : ByteArray := method_3_code
def yL_feed : MethodName := ⟨RL, "feed", "(LCycleSynthesis;IJ[J)I"⟩
abbrev cL_units : ByteArray := method_4_code
def yL_units : MethodName := ⟨RL, "units", "(LCycleSynthesis;III)I"⟩
abbrev cL_told : ByteArray := method_5_code
def yL_told : MethodName := ⟨RL, "told", "(LCycleSynthesis;I[J)I"⟩
abbrev cL_block : ByteArray := method_6_code
def yL_block : MethodName := ⟨RL, "block", "(LCycleSynthesis;II[J)I"⟩
abbrev cL_operation : ByteArray := method_7_code
def yL_operation : MethodName := ⟨RL, "operation", "(LCycleSynthesis;II[J)I"⟩
abbrev cL_set : ByteArray := method_8_code
def yL_set : MethodName := ⟨RL, "set", "(LCycleSynthesis;II[J)I"⟩
abbrev cL_get : ByteArray := method_9_code
def yL_get : MethodName := ⟨RL, "get", "(LCycleSynthesis;I[J)I"⟩
abbrev cL_poke : ByteArray := method_10_code
def yL_poke : MethodName := ⟨RL, "poke", "(LCycleSynthesis;II[J)I"⟩
abbrev cL_peek : ByteArray := method_11_code
def yL_peek : MethodName := ⟨RL, "peek", "(LCycleSynthesis;I[J)I"⟩
abbrev cL_run : ByteArray := method_12_code
def yL_run : MethodName := ⟨RL, "run", "(LCycleSynthesis;I[J)I"⟩
abbrev cL_law : ByteArray := code
def yL_law : MethodName := ⟨RL, "law", "([I)Z"⟩
abbrev vwCl : List vw_C := [(RX0, TX0, 7), (RX1, TX1, 6), (RX2, TX2, 6), (RX4, TX4, 15), (RX5, TX5, 4), (RX6, TX6, 2), (RX7, TX7, 2), (RX8, TX8, 7), (RX9, TX9, 6), (RX10, TX10, 6), (RX11, TX11, 51)]
